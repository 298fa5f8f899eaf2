/-! the law's cases, over any relation of the two states that the methods keep -/
theorem lg_cmp_eq0 {x y : Int64} (h : x = y) : lg_cmp x y = 0 := by
  subst h
  unfold lg_cmp
  rw [if_neg (show ¬ x > x from Int64.lt_irrefl), if_pos rfl]
theorem li_in {L0 k j : Nat} (hL : L0 ≤ 3584) (h : k + 7 ≤ L0) (hj : j < 7) : vp_in (nI k + nI j) L0 := by
  rw [nI_add]
  exact vp_in_nI (by omega) (by omega)
theorem li_in0 {L0 k : Nat} (hL : L0 ≤ 3584) (h : k + 7 ≤ L0) : vp_in (nI k) L0 := vp_in_nI (by omega) (by omega)
theorem li_ok {L0 k : Nat} (hL : L0 ≤ 3584) (hk : k ≤ 4000) (h : ¬ nI L0 - 7 < nI k) : k + 7 ≤ L0 := by
  rw [Int32.lt_iff_toInt_lt, show (7 : Int32) = nI 7 from rfl, pk_sub_toInt (by omega) (by omega), nI_toInt (by omega)] at h
  omega
def RS_count (Rel : Option Nat → mh_I → mh_L → mh_I → Prop) : Prop := ∀ (T : Option Nat) (I1 : mh_I) (L1 : mh_L) (I2 : mh_I) (a1 : Int32), Rel T I1 L1 I2 → ∃ (q : Int32) (r : Int32), X5_count a1 I1 L1 = some q ∧ X6_count a1 I2 = some r ∧ q = r ∧ Rel T I1 L1 I2
set_option maxHeartbeats 4000000 in
set_option maxRecDepth 100000 in
theorem lc_count (Rel : Option Nat → mh_I → mh_L → mh_I → Prop) (hT : ∀ T I1 L1 I2, Rel T I1 L1 I2 → ∀ t, T = some t → t < 46) (hR : RS_count Rel) {L0 k : Nat} {xs : Nat → Int32} (hL : L0 ≤ 3584) (hi : k + 7 ≤ L0) {T : Option Nat} {I1 I2 : mh_I} {L1 L2 : mh_L} (hrel : Rel T I1 L1 I2) (kk : ∀ T1 J1 K1 J2, Rel T1 J1 K1 J2 → ml_W L0 xs T1 J1 K1 J2 L2 1806 [(0, .ref 1002), (1, .ref 900), (2, .ref 901), (3, .int (nI k))] []) : ml_W L0 xs T I1 L1 I2 L2 224 [(0, .ref 1002), (1, .ref 900), (2, .ref 901), (3, .int (nI k))] [] := by
  obtain ⟨q, r, h5, h6, hv, hrel⟩ := hR T I1 L1 I2 (xs (nI k + 1).toNatClampNeg) hrel
  refine ml_aload_n dL_law_224 1 rfl ?_
  refine ml_aload_n dL_law_225 0 rfl ?_
  refine ml_iload_n dL_law_226 3 rfl ?_
  refine ml_iconst (v := 1) dL_law_227 (by decide) ?_
  refine ml_iadd dL_law_228 ?_
  refine ml_sld (li_in (j := 1) hL hi (by decide)) dL_law_229 ?_
  refine ml_callX (dc := 1) (k := 1) (v := .int q) (T' := T) cv_L_13 wd_297 rfl wd_300 dL_law_230 [.int (xs (nI k + 1).toNatClampNeg)] [.int (xs (nI k + 1).toNatClampNeg), .ref 900] rfl rfl (fun f => rfl) (fun f => rfl) (fun f => rfl) (t_X5_count h5) (fun _ _ _ _ h => h) (fun h => h) ⟨by decide, by decide⟩ (Nat.le_of_ble_eq_true rfl) ?_
  refine ml_aload_n dL_law_233 2 rfl ?_
  refine ml_aload_n dL_law_234 0 rfl ?_
  refine ml_iload_n dL_law_235 3 rfl ?_
  refine ml_iconst (v := 1) dL_law_236 (by decide) ?_
  refine ml_iadd dL_law_237 ?_
  refine ml_sld (li_in (j := 1) hL hi (by decide)) dL_law_238 ?_
  refine ml_callM (dc := 1) (k := 1) (v := .int r) cv_L_17 wd_850 rfl wd_853 dL_law_239 [.int (xs (nI k + 1).toNatClampNeg)] [.int (xs (nI k + 1).toNatClampNeg), .ref 901, .int q] rfl rfl (fun f => rfl) (fun f => rfl) (fun f => rfl) (t_X6_count h6) (fun _ _ _ _ h => h) ⟨by decide, by decide⟩ (Nat.le_of_ble_eq_true rfl) ?_
  refine ml_icmp_eq (tgt := 1806) dL_law_242 (by decide) hv ?_
  exact kk _ _ _ _ hrel
def RS_feed (Rel : Option Nat → mh_I → mh_L → mh_I → Prop) : Prop := ∀ (T : Option Nat) (I1 : mh_I) (L1 : mh_L) (I2 : mh_I) (a1 a2 a3 a4 a5 a6 : Int32), Rel T I1 L1 I2 → ∃ (q : Int32 × mh_I) (r : Int32 × mh_I), X5_feed a1 a2 a3 a4 a5 a6 I1 = some q ∧ X6_feed a1 a2 a3 a4 a5 a6 I2 = some r ∧ q.1 = r.1 ∧ Rel T q.2 L1 r.2
set_option maxHeartbeats 4000000 in
set_option maxRecDepth 100000 in
theorem lc_feed (Rel : Option Nat → mh_I → mh_L → mh_I → Prop) (hT : ∀ T I1 L1 I2, Rel T I1 L1 I2 → ∀ t, T = some t → t < 46) (hR : RS_feed Rel) {L0 k : Nat} {xs : Nat → Int32} (hL : L0 ≤ 3584) (hi : k + 7 ≤ L0) {T : Option Nat} {I1 I2 : mh_I} {L1 L2 : mh_L} (hrel : Rel T I1 L1 I2) (kk : ∀ T1 J1 K1 J2, Rel T1 J1 K1 J2 → ml_W L0 xs T1 J1 K1 J2 L2 1806 [(0, .ref 1002), (1, .ref 900), (2, .ref 901), (3, .int (nI k))] []) : ml_W L0 xs T I1 L1 I2 L2 247 [(0, .ref 1002), (1, .ref 900), (2, .ref 901), (3, .int (nI k))] [] := by
  obtain ⟨q, r, h5, h6, hv, hrel⟩ := hR T I1 L1 I2 (xs (nI k + 1).toNatClampNeg) (xs (nI k + 2).toNatClampNeg) (xs (nI k + 3).toNatClampNeg) (xs (nI k + 4).toNatClampNeg) (xs (nI k + 5).toNatClampNeg) (xs (nI k + 6).toNatClampNeg) hrel
  refine ml_aload_n dL_law_247 1 rfl ?_
  refine ml_aload_n dL_law_248 0 rfl ?_
  refine ml_iload_n dL_law_249 3 rfl ?_
  refine ml_iconst (v := 1) dL_law_250 (by decide) ?_
  refine ml_iadd dL_law_251 ?_
  refine ml_sld (li_in (j := 1) hL hi (by decide)) dL_law_252 ?_
  refine ml_aload_n dL_law_253 0 rfl ?_
  refine ml_iload_n dL_law_254 3 rfl ?_
  refine ml_iconst (v := 2) dL_law_255 (by decide) ?_
  refine ml_iadd dL_law_256 ?_
  refine ml_sld (li_in (j := 2) hL hi (by decide)) dL_law_257 ?_
  refine ml_aload_n dL_law_258 0 rfl ?_
  refine ml_iload_n dL_law_259 3 rfl ?_
  refine ml_iconst (v := 3) dL_law_260 (by decide) ?_
  refine ml_iadd dL_law_261 ?_
  refine ml_sld (li_in (j := 3) hL hi (by decide)) dL_law_262 ?_
  refine ml_aload_n dL_law_263 0 rfl ?_
  refine ml_iload_n dL_law_264 3 rfl ?_
  refine ml_iconst (v := 4) dL_law_265 (by decide) ?_
  refine ml_iadd dL_law_266 ?_
  refine ml_sld (li_in (j := 4) hL hi (by decide)) dL_law_267 ?_
  refine ml_aload_n dL_law_268 0 rfl ?_
  refine ml_iload_n dL_law_269 3 rfl ?_
  refine ml_iconst (v := 5) dL_law_270 (by decide) ?_
  refine ml_iadd dL_law_271 ?_
  refine ml_sld (li_in (j := 5) hL hi (by decide)) dL_law_272 ?_
  refine ml_aload_n dL_law_273 0 rfl ?_
  refine ml_iload_n dL_law_274 3 rfl ?_
  refine ml_bipush (v := 6) dL_law_275 (by decide) ?_
  refine ml_iadd dL_law_277 ?_
  refine ml_sld (li_in (j := 6) hL hi (by decide)) dL_law_278 ?_
  refine ml_callX (dc := 2) (k := 6) (v := .int q.1) (T' := T) cv_L_18 wd_307 rfl wd_310 dL_law_279 [.int (xs (nI k + 1).toNatClampNeg), .int (xs (nI k + 2).toNatClampNeg), .int (xs (nI k + 3).toNatClampNeg), .int (xs (nI k + 4).toNatClampNeg), .int (xs (nI k + 5).toNatClampNeg), .int (xs (nI k + 6).toNatClampNeg)] [.int (xs (nI k + 6).toNatClampNeg), .int (xs (nI k + 5).toNatClampNeg), .int (xs (nI k + 4).toNatClampNeg), .int (xs (nI k + 3).toNatClampNeg), .int (xs (nI k + 2).toNatClampNeg), .int (xs (nI k + 1).toNatClampNeg), .ref 900] rfl rfl (fun f => rfl) (fun f => rfl) (fun f => rfl) (t_X5_feed h5) (fun _ _ _ _ h => h) (fun h => h) ⟨by decide, by decide⟩ (Nat.le_of_ble_eq_true rfl) ?_
  refine ml_aload_n dL_law_282 2 rfl ?_
  refine ml_aload_n dL_law_283 0 rfl ?_
  refine ml_iload_n dL_law_284 3 rfl ?_
  refine ml_iconst (v := 1) dL_law_285 (by decide) ?_
  refine ml_iadd dL_law_286 ?_
  refine ml_sld (li_in (j := 1) hL hi (by decide)) dL_law_287 ?_
  refine ml_aload_n dL_law_288 0 rfl ?_
  refine ml_iload_n dL_law_289 3 rfl ?_
  refine ml_iconst (v := 2) dL_law_290 (by decide) ?_
  refine ml_iadd dL_law_291 ?_
  refine ml_sld (li_in (j := 2) hL hi (by decide)) dL_law_292 ?_
  refine ml_aload_n dL_law_293 0 rfl ?_
  refine ml_iload_n dL_law_294 3 rfl ?_
  refine ml_iconst (v := 3) dL_law_295 (by decide) ?_
  refine ml_iadd dL_law_296 ?_
  refine ml_sld (li_in (j := 3) hL hi (by decide)) dL_law_297 ?_
  refine ml_aload_n dL_law_298 0 rfl ?_
  refine ml_iload_n dL_law_299 3 rfl ?_
  refine ml_iconst (v := 4) dL_law_300 (by decide) ?_
  refine ml_iadd dL_law_301 ?_
  refine ml_sld (li_in (j := 4) hL hi (by decide)) dL_law_302 ?_
  refine ml_aload_n dL_law_303 0 rfl ?_
  refine ml_iload_n dL_law_304 3 rfl ?_
  refine ml_iconst (v := 5) dL_law_305 (by decide) ?_
  refine ml_iadd dL_law_306 ?_
  refine ml_sld (li_in (j := 5) hL hi (by decide)) dL_law_307 ?_
  refine ml_aload_n dL_law_308 0 rfl ?_
  refine ml_iload_n dL_law_309 3 rfl ?_
  refine ml_bipush (v := 6) dL_law_310 (by decide) ?_
  refine ml_iadd dL_law_312 ?_
  refine ml_sld (li_in (j := 6) hL hi (by decide)) dL_law_313 ?_
  refine ml_callM (dc := 2) (k := 6) (v := .int r.1) cv_L_22 wd_858 rfl wd_861 dL_law_314 [.int (xs (nI k + 1).toNatClampNeg), .int (xs (nI k + 2).toNatClampNeg), .int (xs (nI k + 3).toNatClampNeg), .int (xs (nI k + 4).toNatClampNeg), .int (xs (nI k + 5).toNatClampNeg), .int (xs (nI k + 6).toNatClampNeg)] [.int (xs (nI k + 6).toNatClampNeg), .int (xs (nI k + 5).toNatClampNeg), .int (xs (nI k + 4).toNatClampNeg), .int (xs (nI k + 3).toNatClampNeg), .int (xs (nI k + 2).toNatClampNeg), .int (xs (nI k + 1).toNatClampNeg), .ref 901, .int q.1] rfl rfl (fun f => rfl) (fun f => rfl) (fun f => rfl) (t_X6_feed h6) (fun _ _ _ _ h => h) ⟨by decide, by decide⟩ (Nat.le_of_ble_eq_true rfl) ?_
  refine ml_icmp_eq (tgt := 1806) dL_law_317 (by decide) hv ?_
  exact kk _ _ _ _ hrel
def RS_text (Rel : Option Nat → mh_I → mh_L → mh_I → Prop) : Prop := ∀ (T : Option Nat) (I1 : mh_I) (L1 : mh_L) (I2 : mh_I), Rel T I1 L1 I2 → ∃ (q : Int32 × mh_I × (Option Nat)) (r : Int32 × mh_I), X5_text I1 T = some q ∧ X6_text I2 = some r ∧ q.1 = r.1 ∧ Rel q.2.2 q.2.1 L1 r.2
set_option maxHeartbeats 4000000 in
set_option maxRecDepth 100000 in
theorem lc_text (Rel : Option Nat → mh_I → mh_L → mh_I → Prop) (hT : ∀ T I1 L1 I2, Rel T I1 L1 I2 → ∀ t, T = some t → t < 46) (hR : RS_text Rel) {L0 k : Nat} {xs : Nat → Int32} (hL : L0 ≤ 3584) (hi : k + 7 ≤ L0) {T : Option Nat} {I1 I2 : mh_I} {L1 L2 : mh_L} (hrel : Rel T I1 L1 I2) (kk : ∀ T1 J1 K1 J2, Rel T1 J1 K1 J2 → ml_W L0 xs T1 J1 K1 J2 L2 1806 [(0, .ref 1002), (1, .ref 900), (2, .ref 901), (3, .int (nI k))] []) : ml_W L0 xs T I1 L1 I2 L2 322 [(0, .ref 1002), (1, .ref 900), (2, .ref 901), (3, .int (nI k))] [] := by
  obtain ⟨q, r, h5, h6, hv, hrel⟩ := hR T I1 L1 I2 hrel
  refine ml_aload_n dL_law_322 1 rfl ?_
  refine ml_callX (dc := 103) (k := 0) (v := .int q.1) (T' := q.2.2) cv_L_23 wd_315 rfl wd_318 dL_law_323 [] [.ref 900] rfl rfl (fun f => rfl) (fun f => rfl) (fun f => rfl) (t_X5_text h5) (fun _ _ _ _ h => h) (fun _ => hT _ _ _ _ hrel) ⟨by decide, by decide⟩ (Nat.le_of_ble_eq_true rfl) ?_
  refine ml_aload_n dL_law_326 2 rfl ?_
  refine ml_callM (dc := 4) (k := 0) (v := .int r.1) cv_L_27 wd_865 rfl wd_715 dL_law_327 [] [.ref 901, .int q.1] rfl rfl (fun f => rfl) (fun f => rfl) (fun f => rfl) (t_X6_text h6) (fun _ _ _ _ h => h) ⟨by decide, by decide⟩ (Nat.le_of_ble_eq_true rfl) ?_
  refine ml_icmp_eq (tgt := 1806) dL_law_330 (by decide) hv ?_
  exact kk _ _ _ _ hrel
def RS_force (Rel : Option Nat → mh_I → mh_L → mh_I → Prop) : Prop := ∀ (T : Option Nat) (I1 : mh_I) (L1 : mh_L) (I2 : mh_I) (a1 : Int32), Rel T I1 L1 I2 → ∃ (q : Int32 × mh_I) (r : Int32 × mh_I), X5_force a1 I1 = some q ∧ X6_force a1 I2 = some r ∧ q.1 = r.1 ∧ Rel T q.2 L1 r.2
set_option maxHeartbeats 4000000 in
set_option maxRecDepth 100000 in
theorem lc_force (Rel : Option Nat → mh_I → mh_L → mh_I → Prop) (hT : ∀ T I1 L1 I2, Rel T I1 L1 I2 → ∀ t, T = some t → t < 46) (hR : RS_force Rel) {L0 k : Nat} {xs : Nat → Int32} (hL : L0 ≤ 3584) (hi : k + 7 ≤ L0) {T : Option Nat} {I1 I2 : mh_I} {L1 L2 : mh_L} (hrel : Rel T I1 L1 I2) (kk : ∀ T1 J1 K1 J2, Rel T1 J1 K1 J2 → ml_W L0 xs T1 J1 K1 J2 L2 1806 [(0, .ref 1002), (1, .ref 900), (2, .ref 901), (3, .int (nI k))] []) : ml_W L0 xs T I1 L1 I2 L2 335 [(0, .ref 1002), (1, .ref 900), (2, .ref 901), (3, .int (nI k))] [] := by
  obtain ⟨q, r, h5, h6, hv, hrel⟩ := hR T I1 L1 I2 (xs (nI k + 1).toNatClampNeg) hrel
  refine ml_aload_n dL_law_335 1 rfl ?_
  refine ml_aload_n dL_law_336 0 rfl ?_
  refine ml_iload_n dL_law_337 3 rfl ?_
  refine ml_iconst (v := 1) dL_law_338 (by decide) ?_
  refine ml_iadd dL_law_339 ?_
  refine ml_sld (li_in (j := 1) hL hi (by decide)) dL_law_340 ?_
  refine ml_callX (dc := 1) (k := 1) (v := .int q.1) (T' := T) cv_L_28 wd_319 rfl wd_322 dL_law_341 [.int (xs (nI k + 1).toNatClampNeg)] [.int (xs (nI k + 1).toNatClampNeg), .ref 900] rfl rfl (fun f => rfl) (fun f => rfl) (fun f => rfl) (t_X5_force h5) (fun _ _ _ _ h => h) (fun h => h) ⟨by decide, by decide⟩ (Nat.le_of_ble_eq_true rfl) ?_
  refine ml_aload_n dL_law_344 2 rfl ?_
  refine ml_aload_n dL_law_345 0 rfl ?_
  refine ml_iload_n dL_law_346 3 rfl ?_
  refine ml_iconst (v := 1) dL_law_347 (by decide) ?_
  refine ml_iadd dL_law_348 ?_
  refine ml_sld (li_in (j := 1) hL hi (by decide)) dL_law_349 ?_
  refine ml_callM (dc := 1) (k := 1) (v := .int r.1) cv_L_31 wd_866 rfl wd_869 dL_law_350 [.int (xs (nI k + 1).toNatClampNeg)] [.int (xs (nI k + 1).toNatClampNeg), .ref 901, .int q.1] rfl rfl (fun f => rfl) (fun f => rfl) (fun f => rfl) (t_X6_force h6) (fun _ _ _ _ h => h) ⟨by decide, by decide⟩ (Nat.le_of_ble_eq_true rfl) ?_
  refine ml_icmp_eq (tgt := 1806) dL_law_353 (by decide) hv ?_
  exact kk _ _ _ _ hrel
def RS_asks (Rel : Option Nat → mh_I → mh_L → mh_I → Prop) : Prop := ∀ (T : Option Nat) (I1 : mh_I) (L1 : mh_L) (I2 : mh_I) (a1 a2 a3 : Int32), Rel T I1 L1 I2 → ∃ (q : Int32 × mh_I) (r : Int32 × mh_I), X5_asks a1 a2 a3 I1 L1 = some q ∧ X6_asks a1 a2 a3 I2 = some r ∧ q.1 = r.1 ∧ Rel T q.2 L1 r.2
set_option maxHeartbeats 4000000 in
set_option maxRecDepth 100000 in
theorem lc_asks (Rel : Option Nat → mh_I → mh_L → mh_I → Prop) (hT : ∀ T I1 L1 I2, Rel T I1 L1 I2 → ∀ t, T = some t → t < 46) (hR : RS_asks Rel) {L0 k : Nat} {xs : Nat → Int32} (hL : L0 ≤ 3584) (hi : k + 7 ≤ L0) {T : Option Nat} {I1 I2 : mh_I} {L1 L2 : mh_L} (hrel : Rel T I1 L1 I2) (kk : ∀ T1 J1 K1 J2, Rel T1 J1 K1 J2 → ml_W L0 xs T1 J1 K1 J2 L2 1806 [(0, .ref 1002), (1, .ref 900), (2, .ref 901), (3, .int (nI k))] []) : ml_W L0 xs T I1 L1 I2 L2 358 [(0, .ref 1002), (1, .ref 900), (2, .ref 901), (3, .int (nI k))] [] := by
  obtain ⟨q, r, h5, h6, hv, hrel⟩ := hR T I1 L1 I2 (xs (nI k + 1).toNatClampNeg) (xs (nI k + 2).toNatClampNeg) (xs (nI k + 3).toNatClampNeg) hrel
  refine ml_aload_n dL_law_358 1 rfl ?_
  refine ml_aload_n dL_law_359 0 rfl ?_
  refine ml_iload_n dL_law_360 3 rfl ?_
  refine ml_iconst (v := 1) dL_law_361 (by decide) ?_
  refine ml_iadd dL_law_362 ?_
  refine ml_sld (li_in (j := 1) hL hi (by decide)) dL_law_363 ?_
  refine ml_aload_n dL_law_364 0 rfl ?_
  refine ml_iload_n dL_law_365 3 rfl ?_
  refine ml_iconst (v := 2) dL_law_366 (by decide) ?_
  refine ml_iadd dL_law_367 ?_
  refine ml_sld (li_in (j := 2) hL hi (by decide)) dL_law_368 ?_
  refine ml_aload_n dL_law_369 0 rfl ?_
  refine ml_iload_n dL_law_370 3 rfl ?_
  refine ml_iconst (v := 3) dL_law_371 (by decide) ?_
  refine ml_iadd dL_law_372 ?_
  refine ml_sld (li_in (j := 3) hL hi (by decide)) dL_law_373 ?_
  refine ml_callX (dc := 3) (k := 3) (v := .int q.1) (T' := T) cv_L_32 wd_323 rfl wd_326 dL_law_374 [.int (xs (nI k + 1).toNatClampNeg), .int (xs (nI k + 2).toNatClampNeg), .int (xs (nI k + 3).toNatClampNeg)] [.int (xs (nI k + 3).toNatClampNeg), .int (xs (nI k + 2).toNatClampNeg), .int (xs (nI k + 1).toNatClampNeg), .ref 900] rfl rfl (fun f => rfl) (fun f => rfl) (fun f => rfl) (t_X5_asks h5) (fun _ _ _ _ h => h) (fun h => h) ⟨by decide, by decide⟩ (Nat.le_of_ble_eq_true rfl) ?_
  refine ml_aload_n dL_law_377 2 rfl ?_
  refine ml_aload_n dL_law_378 0 rfl ?_
  refine ml_iload_n dL_law_379 3 rfl ?_
  refine ml_iconst (v := 1) dL_law_380 (by decide) ?_
  refine ml_iadd dL_law_381 ?_
  refine ml_sld (li_in (j := 1) hL hi (by decide)) dL_law_382 ?_
  refine ml_aload_n dL_law_383 0 rfl ?_
  refine ml_iload_n dL_law_384 3 rfl ?_
  refine ml_iconst (v := 2) dL_law_385 (by decide) ?_
  refine ml_iadd dL_law_386 ?_
  refine ml_sld (li_in (j := 2) hL hi (by decide)) dL_law_387 ?_
  refine ml_aload_n dL_law_388 0 rfl ?_
  refine ml_iload_n dL_law_389 3 rfl ?_
  refine ml_iconst (v := 3) dL_law_390 (by decide) ?_
  refine ml_iadd dL_law_391 ?_
  refine ml_sld (li_in (j := 3) hL hi (by decide)) dL_law_392 ?_
  refine ml_callM (dc := 3) (k := 3) (v := .int r.1) cv_L_36 wd_870 rfl wd_873 dL_law_393 [.int (xs (nI k + 1).toNatClampNeg), .int (xs (nI k + 2).toNatClampNeg), .int (xs (nI k + 3).toNatClampNeg)] [.int (xs (nI k + 3).toNatClampNeg), .int (xs (nI k + 2).toNatClampNeg), .int (xs (nI k + 1).toNatClampNeg), .ref 901, .int q.1] rfl rfl (fun f => rfl) (fun f => rfl) (fun f => rfl) (t_X6_asks h6) (fun _ _ _ _ h => h) ⟨by decide, by decide⟩ (Nat.le_of_ble_eq_true rfl) ?_
  refine ml_icmp_eq (tgt := 1806) dL_law_396 (by decide) hv ?_
  exact kk _ _ _ _ hrel
def RS_knit (Rel : Option Nat → mh_I → mh_L → mh_I → Prop) : Prop := ∀ (T : Option Nat) (I1 : mh_I) (L1 : mh_L) (I2 : mh_I) (a1 a2 a3 : Int32), Rel T I1 L1 I2 → ∃ (q : Int32 × mh_I) (r : Int32 × mh_I), X5_knit a1 a2 a3 I1 = some q ∧ X6_knit a1 a2 a3 I2 = some r ∧ q.1 = r.1 ∧ Rel T q.2 L1 r.2
set_option maxHeartbeats 4000000 in
set_option maxRecDepth 100000 in
theorem lc_knit (Rel : Option Nat → mh_I → mh_L → mh_I → Prop) (hT : ∀ T I1 L1 I2, Rel T I1 L1 I2 → ∀ t, T = some t → t < 46) (hR : RS_knit Rel) {L0 k : Nat} {xs : Nat → Int32} (hL : L0 ≤ 3584) (hi : k + 7 ≤ L0) {T : Option Nat} {I1 I2 : mh_I} {L1 L2 : mh_L} (hrel : Rel T I1 L1 I2) (kk : ∀ T1 J1 K1 J2, Rel T1 J1 K1 J2 → ml_W L0 xs T1 J1 K1 J2 L2 1806 [(0, .ref 1002), (1, .ref 900), (2, .ref 901), (3, .int (nI k))] []) : ml_W L0 xs T I1 L1 I2 L2 401 [(0, .ref 1002), (1, .ref 900), (2, .ref 901), (3, .int (nI k))] [] := by
  obtain ⟨q, r, h5, h6, hv, hrel⟩ := hR T I1 L1 I2 (xs (nI k + 1).toNatClampNeg) (xs (nI k + 2).toNatClampNeg) (xs (nI k + 3).toNatClampNeg) hrel
  refine ml_aload_n dL_law_401 1 rfl ?_
  refine ml_aload_n dL_law_402 0 rfl ?_
  refine ml_iload_n dL_law_403 3 rfl ?_
  refine ml_iconst (v := 1) dL_law_404 (by decide) ?_
  refine ml_iadd dL_law_405 ?_
  refine ml_sld (li_in (j := 1) hL hi (by decide)) dL_law_406 ?_
  refine ml_aload_n dL_law_407 0 rfl ?_
  refine ml_iload_n dL_law_408 3 rfl ?_
  refine ml_iconst (v := 2) dL_law_409 (by decide) ?_
  refine ml_iadd dL_law_410 ?_
  refine ml_sld (li_in (j := 2) hL hi (by decide)) dL_law_411 ?_
  refine ml_aload_n dL_law_412 0 rfl ?_
  refine ml_iload_n dL_law_413 3 rfl ?_
  refine ml_iconst (v := 3) dL_law_414 (by decide) ?_
  refine ml_iadd dL_law_415 ?_
  refine ml_sld (li_in (j := 3) hL hi (by decide)) dL_law_416 ?_
  refine ml_callX (dc := 2) (k := 3) (v := .int q.1) (T' := T) cv_L_37 wd_372 rfl wd_375 dL_law_417 [.int (xs (nI k + 1).toNatClampNeg), .int (xs (nI k + 2).toNatClampNeg), .int (xs (nI k + 3).toNatClampNeg)] [.int (xs (nI k + 3).toNatClampNeg), .int (xs (nI k + 2).toNatClampNeg), .int (xs (nI k + 1).toNatClampNeg), .ref 900] rfl rfl (fun f => rfl) (fun f => rfl) (fun f => rfl) (t_X5_knit h5) (fun _ _ _ _ h => h) (fun h => h) ⟨by decide, by decide⟩ (Nat.le_of_ble_eq_true rfl) ?_
  refine ml_aload_n dL_law_420 2 rfl ?_
  refine ml_aload_n dL_law_421 0 rfl ?_
  refine ml_iload_n dL_law_422 3 rfl ?_
  refine ml_iconst (v := 1) dL_law_423 (by decide) ?_
  refine ml_iadd dL_law_424 ?_
  refine ml_sld (li_in (j := 1) hL hi (by decide)) dL_law_425 ?_
  refine ml_aload_n dL_law_426 0 rfl ?_
  refine ml_iload_n dL_law_427 3 rfl ?_
  refine ml_iconst (v := 2) dL_law_428 (by decide) ?_
  refine ml_iadd dL_law_429 ?_
  refine ml_sld (li_in (j := 2) hL hi (by decide)) dL_law_430 ?_
  refine ml_aload_n dL_law_431 0 rfl ?_
  refine ml_iload_n dL_law_432 3 rfl ?_
  refine ml_iconst (v := 3) dL_law_433 (by decide) ?_
  refine ml_iadd dL_law_434 ?_
  refine ml_sld (li_in (j := 3) hL hi (by decide)) dL_law_435 ?_
  refine ml_callM (dc := 2) (k := 3) (v := .int r.1) cv_L_40 wd_897 rfl wd_900 dL_law_436 [.int (xs (nI k + 1).toNatClampNeg), .int (xs (nI k + 2).toNatClampNeg), .int (xs (nI k + 3).toNatClampNeg)] [.int (xs (nI k + 3).toNatClampNeg), .int (xs (nI k + 2).toNatClampNeg), .int (xs (nI k + 1).toNatClampNeg), .ref 901, .int q.1] rfl rfl (fun f => rfl) (fun f => rfl) (fun f => rfl) (t_X6_knit h6) (fun _ _ _ _ h => h) ⟨by decide, by decide⟩ (Nat.le_of_ble_eq_true rfl) ?_
  refine ml_icmp_eq (tgt := 1806) dL_law_439 (by decide) hv ?_
  exact kk _ _ _ _ hrel
def RS_row (Rel : Option Nat → mh_I → mh_L → mh_I → Prop) : Prop := ∀ (T : Option Nat) (I1 : mh_I) (L1 : mh_L) (I2 : mh_I) (a1 a2 a3 : Int32), Rel T I1 L1 I2 → ∃ (q : Int32 × mh_I) (r : Int32 × mh_I), X5_row a1 a2 a3 I1 = some q ∧ X6_row a1 a2 a3 I2 = some r ∧ q.1 = r.1 ∧ Rel T q.2 L1 r.2
set_option maxHeartbeats 4000000 in
set_option maxRecDepth 100000 in
theorem lc_row (Rel : Option Nat → mh_I → mh_L → mh_I → Prop) (hT : ∀ T I1 L1 I2, Rel T I1 L1 I2 → ∀ t, T = some t → t < 46) (hR : RS_row Rel) {L0 k : Nat} {xs : Nat → Int32} (hL : L0 ≤ 3584) (hi : k + 7 ≤ L0) {T : Option Nat} {I1 I2 : mh_I} {L1 L2 : mh_L} (hrel : Rel T I1 L1 I2) (kk : ∀ T1 J1 K1 J2, Rel T1 J1 K1 J2 → ml_W L0 xs T1 J1 K1 J2 L2 1806 [(0, .ref 1002), (1, .ref 900), (2, .ref 901), (3, .int (nI k))] []) : ml_W L0 xs T I1 L1 I2 L2 444 [(0, .ref 1002), (1, .ref 900), (2, .ref 901), (3, .int (nI k))] [] := by
  obtain ⟨q, r, h5, h6, hv, hrel⟩ := hR T I1 L1 I2 (xs (nI k + 1).toNatClampNeg) (xs (nI k + 2).toNatClampNeg) (xs (nI k + 3).toNatClampNeg) hrel
  refine ml_aload_n dL_law_444 1 rfl ?_
  refine ml_aload_n dL_law_445 0 rfl ?_
  refine ml_iload_n dL_law_446 3 rfl ?_
  refine ml_iconst (v := 1) dL_law_447 (by decide) ?_
  refine ml_iadd dL_law_448 ?_
  refine ml_sld (li_in (j := 1) hL hi (by decide)) dL_law_449 ?_
  refine ml_aload_n dL_law_450 0 rfl ?_
  refine ml_iload_n dL_law_451 3 rfl ?_
  refine ml_iconst (v := 2) dL_law_452 (by decide) ?_
  refine ml_iadd dL_law_453 ?_
  refine ml_sld (li_in (j := 2) hL hi (by decide)) dL_law_454 ?_
  refine ml_aload_n dL_law_455 0 rfl ?_
  refine ml_iload_n dL_law_456 3 rfl ?_
  refine ml_iconst (v := 3) dL_law_457 (by decide) ?_
  refine ml_iadd dL_law_458 ?_
  refine ml_sld (li_in (j := 3) hL hi (by decide)) dL_law_459 ?_
  refine ml_callX (dc := 2) (k := 3) (v := .int q.1) (T' := T) cv_L_41 wd_383 rfl wd_386 dL_law_460 [.int (xs (nI k + 1).toNatClampNeg), .int (xs (nI k + 2).toNatClampNeg), .int (xs (nI k + 3).toNatClampNeg)] [.int (xs (nI k + 3).toNatClampNeg), .int (xs (nI k + 2).toNatClampNeg), .int (xs (nI k + 1).toNatClampNeg), .ref 900] rfl rfl (fun f => rfl) (fun f => rfl) (fun f => rfl) (t_X5_row h5) (fun _ _ _ _ h => h) (fun h => h) ⟨by decide, by decide⟩ (Nat.le_of_ble_eq_true rfl) ?_
  refine ml_aload_n dL_law_463 2 rfl ?_
  refine ml_aload_n dL_law_464 0 rfl ?_
  refine ml_iload_n dL_law_465 3 rfl ?_
  refine ml_iconst (v := 1) dL_law_466 (by decide) ?_
  refine ml_iadd dL_law_467 ?_
  refine ml_sld (li_in (j := 1) hL hi (by decide)) dL_law_468 ?_
  refine ml_aload_n dL_law_469 0 rfl ?_
  refine ml_iload_n dL_law_470 3 rfl ?_
  refine ml_iconst (v := 2) dL_law_471 (by decide) ?_
  refine ml_iadd dL_law_472 ?_
  refine ml_sld (li_in (j := 2) hL hi (by decide)) dL_law_473 ?_
  refine ml_aload_n dL_law_474 0 rfl ?_
  refine ml_iload_n dL_law_475 3 rfl ?_
  refine ml_iconst (v := 3) dL_law_476 (by decide) ?_
  refine ml_iadd dL_law_477 ?_
  refine ml_sld (li_in (j := 3) hL hi (by decide)) dL_law_478 ?_
  refine ml_callM (dc := 3) (k := 3) (v := .int r.1) cv_L_44 wd_904 rfl wd_907 dL_law_479 [.int (xs (nI k + 1).toNatClampNeg), .int (xs (nI k + 2).toNatClampNeg), .int (xs (nI k + 3).toNatClampNeg)] [.int (xs (nI k + 3).toNatClampNeg), .int (xs (nI k + 2).toNatClampNeg), .int (xs (nI k + 1).toNatClampNeg), .ref 901, .int q.1] rfl rfl (fun f => rfl) (fun f => rfl) (fun f => rfl) (t_X6_row h6) (fun _ _ _ _ h => h) ⟨by decide, by decide⟩ (Nat.le_of_ble_eq_true rfl) ?_
  refine ml_icmp_eq (tgt := 1806) dL_law_482 (by decide) hv ?_
  exact kk _ _ _ _ hrel
def RS_told (Rel : Option Nat → mh_I → mh_L → mh_I → Prop) : Prop := ∀ (T : Option Nat) (I1 : mh_I) (L1 : mh_L) (I2 : mh_I) (a1 a2 : Int32), Rel T I1 L1 I2 → ∃ (q : Int32) (r : Int32), X5_told a1 a2 I1 L1 = some q ∧ X6_told a1 a2 I2 = some r ∧ q = r ∧ Rel T I1 L1 I2
set_option maxHeartbeats 4000000 in
set_option maxRecDepth 100000 in
theorem lc_told (Rel : Option Nat → mh_I → mh_L → mh_I → Prop) (hT : ∀ T I1 L1 I2, Rel T I1 L1 I2 → ∀ t, T = some t → t < 46) (hR : RS_told Rel) {L0 k : Nat} {xs : Nat → Int32} (hL : L0 ≤ 3584) (hi : k + 7 ≤ L0) {T : Option Nat} {I1 I2 : mh_I} {L1 L2 : mh_L} (hrel : Rel T I1 L1 I2) (kk : ∀ T1 J1 K1 J2, Rel T1 J1 K1 J2 → ml_W L0 xs T1 J1 K1 J2 L2 1806 [(0, .ref 1002), (1, .ref 900), (2, .ref 901), (3, .int (nI k))] []) : ml_W L0 xs T I1 L1 I2 L2 487 [(0, .ref 1002), (1, .ref 900), (2, .ref 901), (3, .int (nI k))] [] := by
  obtain ⟨q, r, h5, h6, hv, hrel⟩ := hR T I1 L1 I2 (xs (nI k + 1).toNatClampNeg) (xs (nI k + 2).toNatClampNeg) hrel
  refine ml_aload_n dL_law_487 1 rfl ?_
  refine ml_aload_n dL_law_488 0 rfl ?_
  refine ml_iload_n dL_law_489 3 rfl ?_
  refine ml_iconst (v := 1) dL_law_490 (by decide) ?_
  refine ml_iadd dL_law_491 ?_
  refine ml_sld (li_in (j := 1) hL hi (by decide)) dL_law_492 ?_
  refine ml_aload_n dL_law_493 0 rfl ?_
  refine ml_iload_n dL_law_494 3 rfl ?_
  refine ml_iconst (v := 2) dL_law_495 (by decide) ?_
  refine ml_iadd dL_law_496 ?_
  refine ml_sld (li_in (j := 2) hL hi (by decide)) dL_law_497 ?_
  refine ml_callX (dc := 2) (k := 2) (v := .int q) (T' := T) cv_L_45 wd_390 rfl wd_393 dL_law_498 [.int (xs (nI k + 1).toNatClampNeg), .int (xs (nI k + 2).toNatClampNeg)] [.int (xs (nI k + 2).toNatClampNeg), .int (xs (nI k + 1).toNatClampNeg), .ref 900] rfl rfl (fun f => rfl) (fun f => rfl) (fun f => rfl) (t_X5_told h5) (fun _ _ _ _ h => h) (fun h => h) ⟨by decide, by decide⟩ (Nat.le_of_ble_eq_true rfl) ?_
  refine ml_aload_n dL_law_501 2 rfl ?_
  refine ml_aload_n dL_law_502 0 rfl ?_
  refine ml_iload_n dL_law_503 3 rfl ?_
  refine ml_iconst (v := 1) dL_law_504 (by decide) ?_
  refine ml_iadd dL_law_505 ?_
  refine ml_sld (li_in (j := 1) hL hi (by decide)) dL_law_506 ?_
  refine ml_aload_n dL_law_507 0 rfl ?_
  refine ml_iload_n dL_law_508 3 rfl ?_
  refine ml_iconst (v := 2) dL_law_509 (by decide) ?_
  refine ml_iadd dL_law_510 ?_
  refine ml_sld (li_in (j := 2) hL hi (by decide)) dL_law_511 ?_
  refine ml_callM (dc := 2) (k := 2) (v := .int r) cv_L_49 wd_909 rfl wd_912 dL_law_512 [.int (xs (nI k + 1).toNatClampNeg), .int (xs (nI k + 2).toNatClampNeg)] [.int (xs (nI k + 2).toNatClampNeg), .int (xs (nI k + 1).toNatClampNeg), .ref 901, .int q] rfl rfl (fun f => rfl) (fun f => rfl) (fun f => rfl) (t_X6_told h6) (fun _ _ _ _ h => h) ⟨by decide, by decide⟩ (Nat.le_of_ble_eq_true rfl) ?_
  refine ml_icmp_eq (tgt := 1806) dL_law_515 (by decide) hv ?_
  exact kk _ _ _ _ hrel
def RS_pin (Rel : Option Nat → mh_I → mh_L → mh_I → Prop) : Prop := ∀ (T : Option Nat) (I1 : mh_I) (L1 : mh_L) (I2 : mh_I) (a1 a2 : Int32), Rel T I1 L1 I2 → ∃ (q : Int32 × mh_L) (r : Int32 × mh_I), X5_pin a1 a2 L1 = some q ∧ X6_pin a1 a2 I2 = some r ∧ q.1 = r.1 ∧ Rel T I1 q.2 r.2
set_option maxHeartbeats 4000000 in
set_option maxRecDepth 100000 in
theorem lc_pin (Rel : Option Nat → mh_I → mh_L → mh_I → Prop) (hT : ∀ T I1 L1 I2, Rel T I1 L1 I2 → ∀ t, T = some t → t < 46) (hR : RS_pin Rel) {L0 k : Nat} {xs : Nat → Int32} (hL : L0 ≤ 3584) (hi : k + 7 ≤ L0) {T : Option Nat} {I1 I2 : mh_I} {L1 L2 : mh_L} (hrel : Rel T I1 L1 I2) (kk : ∀ T1 J1 K1 J2, Rel T1 J1 K1 J2 → ml_W L0 xs T1 J1 K1 J2 L2 1806 [(0, .ref 1002), (1, .ref 900), (2, .ref 901), (3, .int (nI k))] []) : ml_W L0 xs T I1 L1 I2 L2 520 [(0, .ref 1002), (1, .ref 900), (2, .ref 901), (3, .int (nI k))] [] := by
  obtain ⟨q, r, h5, h6, hv, hrel⟩ := hR T I1 L1 I2 (xs (nI k + 1).toNatClampNeg) (xs (nI k + 2).toNatClampNeg) hrel
  refine ml_aload_n dL_law_520 1 rfl ?_
  refine ml_aload_n dL_law_521 0 rfl ?_
  refine ml_iload_n dL_law_522 3 rfl ?_
  refine ml_iconst (v := 1) dL_law_523 (by decide) ?_
  refine ml_iadd dL_law_524 ?_
  refine ml_sld (li_in (j := 1) hL hi (by decide)) dL_law_525 ?_
  refine ml_aload_n dL_law_526 0 rfl ?_
  refine ml_iload_n dL_law_527 3 rfl ?_
  refine ml_iconst (v := 2) dL_law_528 (by decide) ?_
  refine ml_iadd dL_law_529 ?_
  refine ml_sld (li_in (j := 2) hL hi (by decide)) dL_law_530 ?_
  refine ml_callX (dc := 2) (k := 2) (v := .int q.1) (T' := T) cv_L_50 wd_406 rfl wd_409 dL_law_531 [.int (xs (nI k + 1).toNatClampNeg), .int (xs (nI k + 2).toNatClampNeg)] [.int (xs (nI k + 2).toNatClampNeg), .int (xs (nI k + 1).toNatClampNeg), .ref 900] rfl rfl (fun f => rfl) (fun f => rfl) (fun f => rfl) (t_X5_pin h5) (fun _ _ _ _ h => h) (fun h => h) ⟨by decide, by decide⟩ (Nat.le_of_ble_eq_true rfl) ?_
  refine ml_aload_n dL_law_534 2 rfl ?_
  refine ml_aload_n dL_law_535 0 rfl ?_
  refine ml_iload_n dL_law_536 3 rfl ?_
  refine ml_iconst (v := 1) dL_law_537 (by decide) ?_
  refine ml_iadd dL_law_538 ?_
  refine ml_sld (li_in (j := 1) hL hi (by decide)) dL_law_539 ?_
  refine ml_aload_n dL_law_540 0 rfl ?_
  refine ml_iload_n dL_law_541 3 rfl ?_
  refine ml_iconst (v := 2) dL_law_542 (by decide) ?_
  refine ml_iadd dL_law_543 ?_
  refine ml_sld (li_in (j := 2) hL hi (by decide)) dL_law_544 ?_
  refine ml_callM (dc := 2) (k := 2) (v := .int r.1) cv_L_53 wd_917 rfl wd_920 dL_law_545 [.int (xs (nI k + 1).toNatClampNeg), .int (xs (nI k + 2).toNatClampNeg)] [.int (xs (nI k + 2).toNatClampNeg), .int (xs (nI k + 1).toNatClampNeg), .ref 901, .int q.1] rfl rfl (fun f => rfl) (fun f => rfl) (fun f => rfl) (t_X6_pin h6) (fun _ _ _ _ h => h) ⟨by decide, by decide⟩ (Nat.le_of_ble_eq_true rfl) ?_
  refine ml_icmp_eq (tgt := 1806) dL_law_548 (by decide) hv ?_
  exact kk _ _ _ _ hrel
def RS_hangs (Rel : Option Nat → mh_I → mh_L → mh_I → Prop) : Prop := ∀ (T : Option Nat) (I1 : mh_I) (L1 : mh_L) (I2 : mh_I) (a1 a2 : Int32), Rel T I1 L1 I2 → ∃ (q : Int64) (r : Int64), X5_hangs a1 a2 I1 = some q ∧ X6_hangs a1 a2 I2 = some r ∧ q = r ∧ Rel T I1 L1 I2
set_option maxHeartbeats 4000000 in
set_option maxRecDepth 100000 in
theorem lc_hangs (Rel : Option Nat → mh_I → mh_L → mh_I → Prop) (hT : ∀ T I1 L1 I2, Rel T I1 L1 I2 → ∀ t, T = some t → t < 46) (hR : RS_hangs Rel) {L0 k : Nat} {xs : Nat → Int32} (hL : L0 ≤ 3584) (hi : k + 7 ≤ L0) {T : Option Nat} {I1 I2 : mh_I} {L1 L2 : mh_L} (hrel : Rel T I1 L1 I2) (kk : ∀ T1 J1 K1 J2, Rel T1 J1 K1 J2 → ml_W L0 xs T1 J1 K1 J2 L2 1806 [(0, .ref 1002), (1, .ref 900), (2, .ref 901), (3, .int (nI k))] []) : ml_W L0 xs T I1 L1 I2 L2 553 [(0, .ref 1002), (1, .ref 900), (2, .ref 901), (3, .int (nI k))] [] := by
  obtain ⟨q, r, h5, h6, hv, hrel⟩ := hR T I1 L1 I2 (xs (nI k + 1).toNatClampNeg) (xs (nI k + 2).toNatClampNeg) hrel
  refine ml_aload_n dL_law_553 1 rfl ?_
  refine ml_aload_n dL_law_554 0 rfl ?_
  refine ml_iload_n dL_law_555 3 rfl ?_
  refine ml_iconst (v := 1) dL_law_556 (by decide) ?_
  refine ml_iadd dL_law_557 ?_
  refine ml_sld (li_in (j := 1) hL hi (by decide)) dL_law_558 ?_
  refine ml_aload_n dL_law_559 0 rfl ?_
  refine ml_iload_n dL_law_560 3 rfl ?_
  refine ml_iconst (v := 2) dL_law_561 (by decide) ?_
  refine ml_iadd dL_law_562 ?_
  refine ml_sld (li_in (j := 2) hL hi (by decide)) dL_law_563 ?_
  refine ml_callX (dc := 4) (k := 2) (v := .long q) (T' := T) cv_L_54 wd_414 rfl wd_417 dL_law_564 [.int (xs (nI k + 1).toNatClampNeg), .int (xs (nI k + 2).toNatClampNeg)] [.int (xs (nI k + 2).toNatClampNeg), .int (xs (nI k + 1).toNatClampNeg), .ref 900] rfl rfl (fun f => rfl) (fun f => rfl) (fun f => rfl) (t_X5_hangs h5) (fun _ _ _ _ h => h) (fun h => h) ⟨by decide, by decide⟩ (Nat.le_of_ble_eq_true rfl) ?_
  refine ml_aload_n dL_law_567 2 rfl ?_
  refine ml_aload_n dL_law_568 0 rfl ?_
  refine ml_iload_n dL_law_569 3 rfl ?_
  refine ml_iconst (v := 1) dL_law_570 (by decide) ?_
  refine ml_iadd dL_law_571 ?_
  refine ml_sld (li_in (j := 1) hL hi (by decide)) dL_law_572 ?_
  refine ml_aload_n dL_law_573 0 rfl ?_
  refine ml_iload_n dL_law_574 3 rfl ?_
  refine ml_iconst (v := 2) dL_law_575 (by decide) ?_
  refine ml_iadd dL_law_576 ?_
  refine ml_sld (li_in (j := 2) hL hi (by decide)) dL_law_577 ?_
  refine ml_callM (dc := 4) (k := 2) (v := .long r) cv_L_58 wd_921 rfl wd_924 dL_law_578 [.int (xs (nI k + 1).toNatClampNeg), .int (xs (nI k + 2).toNatClampNeg)] [.int (xs (nI k + 2).toNatClampNeg), .int (xs (nI k + 1).toNatClampNeg), .ref 901, .long q] rfl rfl (fun f => rfl) (fun f => rfl) (fun f => rfl) (t_X6_hangs h6) (fun _ _ _ _ h => h) ⟨by decide, by decide⟩ (Nat.le_of_ble_eq_true rfl) ?_
  refine ml_lcmp dL_law_581 ?_
  refine ml_if_eq (tgt := 1806) dL_law_582 (by decide) (lg_cmp_eq0 hv) ?_
  exact kk _ _ _ _ hrel
def RS_loose (Rel : Option Nat → mh_I → mh_L → mh_I → Prop) : Prop := ∀ (T : Option Nat) (I1 : mh_I) (L1 : mh_L) (I2 : mh_I), Rel T I1 L1 I2 → ∃ (q : Int64) (r : Int64), X5_loose I1 L1 = some q ∧ X6_loose I2 = some r ∧ q = r ∧ Rel T I1 L1 I2
set_option maxHeartbeats 4000000 in
set_option maxRecDepth 100000 in
theorem lc_loose (Rel : Option Nat → mh_I → mh_L → mh_I → Prop) (hT : ∀ T I1 L1 I2, Rel T I1 L1 I2 → ∀ t, T = some t → t < 46) (hR : RS_loose Rel) {L0 k : Nat} {xs : Nat → Int32} (hL : L0 ≤ 3584) (hi : k + 7 ≤ L0) {T : Option Nat} {I1 I2 : mh_I} {L1 L2 : mh_L} (hrel : Rel T I1 L1 I2) (kk : ∀ T1 J1 K1 J2, Rel T1 J1 K1 J2 → ml_W L0 xs T1 J1 K1 J2 L2 1806 [(0, .ref 1002), (1, .ref 900), (2, .ref 901), (3, .int (nI k))] []) : ml_W L0 xs T I1 L1 I2 L2 587 [(0, .ref 1002), (1, .ref 900), (2, .ref 901), (3, .int (nI k))] [] := by
  obtain ⟨q, r, h5, h6, hv, hrel⟩ := hR T I1 L1 I2 hrel
  refine ml_aload_n dL_law_587 1 rfl ?_
  refine ml_callX (dc := 2) (k := 0) (v := .long q) (T' := T) cv_L_59 wd_437 rfl wd_440 dL_law_588 [] [.ref 900] rfl rfl (fun f => rfl) (fun f => rfl) (fun f => rfl) (t_X5_loose h5) (fun _ _ _ _ h => h) (fun h => h) ⟨by decide, by decide⟩ (Nat.le_of_ble_eq_true rfl) ?_
  refine ml_aload_n dL_law_591 2 rfl ?_
  refine ml_callM (dc := 4) (k := 0) (v := .long r) cv_L_63 wd_938 rfl wd_941 dL_law_592 [] [.ref 901, .long q] rfl rfl (fun f => rfl) (fun f => rfl) (fun f => rfl) (t_X6_loose h6) (fun _ _ _ _ h => h) ⟨by decide, by decide⟩ (Nat.le_of_ble_eq_true rfl) ?_
  refine ml_lcmp dL_law_595 ?_
  refine ml_if_eq (tgt := 1806) dL_law_596 (by decide) (lg_cmp_eq0 hv) ?_
  exact kk _ _ _ _ hrel
def RS_back (Rel : Option Nat → mh_I → mh_L → mh_I → Prop) : Prop := ∀ (T : Option Nat) (I1 : mh_I) (L1 : mh_L) (I2 : mh_I) (a1 : Int32), Rel T I1 L1 I2 → ∃ (q : Int32) (r : Int32), X5_back a1 I1 = some q ∧ X6_back a1 I2 = some r ∧ q = r ∧ Rel T I1 L1 I2
set_option maxHeartbeats 4000000 in
set_option maxRecDepth 100000 in
theorem lc_back (Rel : Option Nat → mh_I → mh_L → mh_I → Prop) (hT : ∀ T I1 L1 I2, Rel T I1 L1 I2 → ∀ t, T = some t → t < 46) (hR : RS_back Rel) {L0 k : Nat} {xs : Nat → Int32} (hL : L0 ≤ 3584) (hi : k + 7 ≤ L0) {T : Option Nat} {I1 I2 : mh_I} {L1 L2 : mh_L} (hrel : Rel T I1 L1 I2) (kk : ∀ T1 J1 K1 J2, Rel T1 J1 K1 J2 → ml_W L0 xs T1 J1 K1 J2 L2 1806 [(0, .ref 1002), (1, .ref 900), (2, .ref 901), (3, .int (nI k))] []) : ml_W L0 xs T I1 L1 I2 L2 601 [(0, .ref 1002), (1, .ref 900), (2, .ref 901), (3, .int (nI k))] [] := by
  obtain ⟨q, r, h5, h6, hv, hrel⟩ := hR T I1 L1 I2 (xs (nI k + 1).toNatClampNeg) hrel
  refine ml_aload_n dL_law_601 1 rfl ?_
  refine ml_aload_n dL_law_602 0 rfl ?_
  refine ml_iload_n dL_law_603 3 rfl ?_
  refine ml_iconst (v := 1) dL_law_604 (by decide) ?_
  refine ml_iadd dL_law_605 ?_
  refine ml_sld (li_in (j := 1) hL hi (by decide)) dL_law_606 ?_
  refine ml_callX (dc := 4) (k := 1) (v := .int q) (T' := T) cv_L_64 wd_446 rfl wd_449 dL_law_607 [.int (xs (nI k + 1).toNatClampNeg)] [.int (xs (nI k + 1).toNatClampNeg), .ref 900] rfl rfl (fun f => rfl) (fun f => rfl) (fun f => rfl) (t_X5_back h5) (fun _ _ _ _ h => h) (fun h => h) ⟨by decide, by decide⟩ (Nat.le_of_ble_eq_true rfl) ?_
  refine ml_aload_n dL_law_610 2 rfl ?_
  refine ml_aload_n dL_law_611 0 rfl ?_
  refine ml_iload_n dL_law_612 3 rfl ?_
  refine ml_iconst (v := 1) dL_law_613 (by decide) ?_
  refine ml_iadd dL_law_614 ?_
  refine ml_sld (li_in (j := 1) hL hi (by decide)) dL_law_615 ?_
  refine ml_callM (dc := 4) (k := 1) (v := .int r) cv_L_67 wd_950 rfl wd_953 dL_law_616 [.int (xs (nI k + 1).toNatClampNeg)] [.int (xs (nI k + 1).toNatClampNeg), .ref 901, .int q] rfl rfl (fun f => rfl) (fun f => rfl) (fun f => rfl) (t_X6_back h6) (fun _ _ _ _ h => h) ⟨by decide, by decide⟩ (Nat.le_of_ble_eq_true rfl) ?_
  refine ml_icmp_eq (tgt := 1806) dL_law_619 (by decide) hv ?_
  exact kk _ _ _ _ hrel
def RS_run (Rel : Option Nat → mh_I → mh_L → mh_I → Prop) : Prop := ∀ (T : Option Nat) (I1 : mh_I) (L1 : mh_L) (I2 : mh_I) (a1 a2 a3 : Int32), Rel T I1 L1 I2 → ∃ (q : Int32 × mh_I × mh_L) (r : Int32 × mh_I), X5_run a1 a2 a3 I1 L1 = some q ∧ X6_run a1 a2 a3 I2 = some r ∧ q.1 = r.1 ∧ Rel T q.2.1 q.2.2 r.2
set_option maxHeartbeats 4000000 in
set_option maxRecDepth 100000 in
theorem lc_run (Rel : Option Nat → mh_I → mh_L → mh_I → Prop) (hT : ∀ T I1 L1 I2, Rel T I1 L1 I2 → ∀ t, T = some t → t < 46) (hR : RS_run Rel) {L0 k : Nat} {xs : Nat → Int32} (hL : L0 ≤ 3584) (hi : k + 7 ≤ L0) {T : Option Nat} {I1 I2 : mh_I} {L1 L2 : mh_L} (hrel : Rel T I1 L1 I2) (kk : ∀ T1 J1 K1 J2, Rel T1 J1 K1 J2 → ml_W L0 xs T1 J1 K1 J2 L2 1806 [(0, .ref 1002), (1, .ref 900), (2, .ref 901), (3, .int (nI k))] []) : ml_W L0 xs T I1 L1 I2 L2 624 [(0, .ref 1002), (1, .ref 900), (2, .ref 901), (3, .int (nI k))] [] := by
  obtain ⟨q, r, h5, h6, hv, hrel⟩ := hR T I1 L1 I2 (xs (nI k + 1).toNatClampNeg) (xs (nI k + 2).toNatClampNeg) (xs (nI k + 3).toNatClampNeg) hrel
  refine ml_aload_n dL_law_624 1 rfl ?_
  refine ml_aload_n dL_law_625 0 rfl ?_
  refine ml_iload_n dL_law_626 3 rfl ?_
  refine ml_iconst (v := 1) dL_law_627 (by decide) ?_
  refine ml_iadd dL_law_628 ?_
  refine ml_sld (li_in (j := 1) hL hi (by decide)) dL_law_629 ?_
  refine ml_aload_n dL_law_630 0 rfl ?_
  refine ml_iload_n dL_law_631 3 rfl ?_
  refine ml_iconst (v := 2) dL_law_632 (by decide) ?_
  refine ml_iadd dL_law_633 ?_
  refine ml_sld (li_in (j := 2) hL hi (by decide)) dL_law_634 ?_
  refine ml_aload_n dL_law_635 0 rfl ?_
  refine ml_iload_n dL_law_636 3 rfl ?_
  refine ml_iconst (v := 3) dL_law_637 (by decide) ?_
  refine ml_iadd dL_law_638 ?_
  refine ml_sld (li_in (j := 3) hL hi (by decide)) dL_law_639 ?_
  refine ml_callX (dc := 6) (k := 3) (v := .int q.1) (T' := T) cv_L_68 wd_450 rfl wd_453 dL_law_640 [.int (xs (nI k + 1).toNatClampNeg), .int (xs (nI k + 2).toNatClampNeg), .int (xs (nI k + 3).toNatClampNeg)] [.int (xs (nI k + 3).toNatClampNeg), .int (xs (nI k + 2).toNatClampNeg), .int (xs (nI k + 1).toNatClampNeg), .ref 900] rfl rfl (fun f => rfl) (fun f => rfl) (fun f => rfl) (t_X5_run h5) (fun _ _ _ _ h => h) (fun h => h) ⟨by decide, by decide⟩ (Nat.le_of_ble_eq_true rfl) ?_
  refine ml_aload_n dL_law_643 2 rfl ?_
  refine ml_aload_n dL_law_644 0 rfl ?_
  refine ml_iload_n dL_law_645 3 rfl ?_
  refine ml_iconst (v := 1) dL_law_646 (by decide) ?_
  refine ml_iadd dL_law_647 ?_
  refine ml_sld (li_in (j := 1) hL hi (by decide)) dL_law_648 ?_
  refine ml_aload_n dL_law_649 0 rfl ?_
  refine ml_iload_n dL_law_650 3 rfl ?_
  refine ml_iconst (v := 2) dL_law_651 (by decide) ?_
  refine ml_iadd dL_law_652 ?_
  refine ml_sld (li_in (j := 2) hL hi (by decide)) dL_law_653 ?_
  refine ml_aload_n dL_law_654 0 rfl ?_
  refine ml_iload_n dL_law_655 3 rfl ?_
  refine ml_iconst (v := 3) dL_law_656 (by decide) ?_
  refine ml_iadd dL_law_657 ?_
  refine ml_sld (li_in (j := 3) hL hi (by decide)) dL_law_658 ?_
  refine ml_callM (dc := 7) (k := 3) (v := .int r.1) cv_L_71 wd_957 rfl wd_960 dL_law_659 [.int (xs (nI k + 1).toNatClampNeg), .int (xs (nI k + 2).toNatClampNeg), .int (xs (nI k + 3).toNatClampNeg)] [.int (xs (nI k + 3).toNatClampNeg), .int (xs (nI k + 2).toNatClampNeg), .int (xs (nI k + 1).toNatClampNeg), .ref 901, .int q.1] rfl rfl (fun f => rfl) (fun f => rfl) (fun f => rfl) (t_X6_run h6) (fun _ _ _ _ h => h) ⟨by decide, by decide⟩ (Nat.le_of_ble_eq_true rfl) ?_
  refine ml_icmp_eq (tgt := 1806) dL_law_662 (by decide) hv ?_
  exact kk _ _ _ _ hrel
def RS_goes (Rel : Option Nat → mh_I → mh_L → mh_I → Prop) : Prop := ∀ (T : Option Nat) (I1 : mh_I) (L1 : mh_L) (I2 : mh_I) (a1 a2 a3 : Int32), Rel T I1 L1 I2 → ∃ (q : Int64 × mh_I × mh_L) (r : Int64 × mh_I), X5_goes a1 a2 a3 I1 L1 = some q ∧ X6_goes a1 a2 a3 I2 = some r ∧ q.1 = r.1 ∧ Rel T q.2.1 q.2.2 r.2
set_option maxHeartbeats 4000000 in
set_option maxRecDepth 100000 in
theorem lc_goes (Rel : Option Nat → mh_I → mh_L → mh_I → Prop) (hT : ∀ T I1 L1 I2, Rel T I1 L1 I2 → ∀ t, T = some t → t < 46) (hR : RS_goes Rel) {L0 k : Nat} {xs : Nat → Int32} (hL : L0 ≤ 3584) (hi : k + 7 ≤ L0) {T : Option Nat} {I1 I2 : mh_I} {L1 L2 : mh_L} (hrel : Rel T I1 L1 I2) (kk : ∀ T1 J1 K1 J2, Rel T1 J1 K1 J2 → ml_W L0 xs T1 J1 K1 J2 L2 1806 [(0, .ref 1002), (1, .ref 900), (2, .ref 901), (3, .int (nI k))] []) : ml_W L0 xs T I1 L1 I2 L2 667 [(0, .ref 1002), (1, .ref 900), (2, .ref 901), (3, .int (nI k))] [] := by
  obtain ⟨q, r, h5, h6, hv, hrel⟩ := hR T I1 L1 I2 (xs (nI k + 1).toNatClampNeg) (xs (nI k + 2).toNatClampNeg) (xs (nI k + 3).toNatClampNeg) hrel
  refine ml_aload_n dL_law_667 1 rfl ?_
  refine ml_aload_n dL_law_668 0 rfl ?_
  refine ml_iload_n dL_law_669 3 rfl ?_
  refine ml_iconst (v := 1) dL_law_670 (by decide) ?_
  refine ml_iadd dL_law_671 ?_
  refine ml_sld (li_in (j := 1) hL hi (by decide)) dL_law_672 ?_
  refine ml_aload_n dL_law_673 0 rfl ?_
  refine ml_iload_n dL_law_674 3 rfl ?_
  refine ml_iconst (v := 2) dL_law_675 (by decide) ?_
  refine ml_iadd dL_law_676 ?_
  refine ml_sld (li_in (j := 2) hL hi (by decide)) dL_law_677 ?_
  refine ml_aload_n dL_law_678 0 rfl ?_
  refine ml_iload_n dL_law_679 3 rfl ?_
  refine ml_iconst (v := 3) dL_law_680 (by decide) ?_
  refine ml_iadd dL_law_681 ?_
  refine ml_sld (li_in (j := 3) hL hi (by decide)) dL_law_682 ?_
  refine ml_callX (dc := 6) (k := 3) (v := .long q.1) (T' := T) cv_L_72 wd_492 rfl wd_495 dL_law_683 [.int (xs (nI k + 1).toNatClampNeg), .int (xs (nI k + 2).toNatClampNeg), .int (xs (nI k + 3).toNatClampNeg)] [.int (xs (nI k + 3).toNatClampNeg), .int (xs (nI k + 2).toNatClampNeg), .int (xs (nI k + 1).toNatClampNeg), .ref 900] rfl rfl (fun f => rfl) (fun f => rfl) (fun f => rfl) (t_X5_goes h5) (fun _ _ _ _ h => h) (fun h => h) ⟨by decide, by decide⟩ (Nat.le_of_ble_eq_true rfl) ?_
  refine ml_aload_n dL_law_686 2 rfl ?_
  refine ml_aload_n dL_law_687 0 rfl ?_
  refine ml_iload_n dL_law_688 3 rfl ?_
  refine ml_iconst (v := 1) dL_law_689 (by decide) ?_
  refine ml_iadd dL_law_690 ?_
  refine ml_sld (li_in (j := 1) hL hi (by decide)) dL_law_691 ?_
  refine ml_aload_n dL_law_692 0 rfl ?_
  refine ml_iload_n dL_law_693 3 rfl ?_
  refine ml_iconst (v := 2) dL_law_694 (by decide) ?_
  refine ml_iadd dL_law_695 ?_
  refine ml_sld (li_in (j := 2) hL hi (by decide)) dL_law_696 ?_
  refine ml_aload_n dL_law_697 0 rfl ?_
  refine ml_iload_n dL_law_698 3 rfl ?_
  refine ml_iconst (v := 3) dL_law_699 (by decide) ?_
  refine ml_iadd dL_law_700 ?_
  refine ml_sld (li_in (j := 3) hL hi (by decide)) dL_law_701 ?_
  refine ml_callM (dc := 7) (k := 3) (v := .long r.1) cv_L_76 wd_989 rfl wd_992 dL_law_702 [.int (xs (nI k + 1).toNatClampNeg), .int (xs (nI k + 2).toNatClampNeg), .int (xs (nI k + 3).toNatClampNeg)] [.int (xs (nI k + 3).toNatClampNeg), .int (xs (nI k + 2).toNatClampNeg), .int (xs (nI k + 1).toNatClampNeg), .ref 901, .long q.1] rfl rfl (fun f => rfl) (fun f => rfl) (fun f => rfl) (t_X6_goes h6) (fun _ _ _ _ h => h) ⟨by decide, by decide⟩ (Nat.le_of_ble_eq_true rfl) ?_
  refine ml_lcmp dL_law_705 ?_
  refine ml_if_eq (tgt := 1806) dL_law_706 (by decide) (lg_cmp_eq0 hv) ?_
  exact kk _ _ _ _ hrel
def RS_left (Rel : Option Nat → mh_I → mh_L → mh_I → Prop) : Prop := ∀ (T : Option Nat) (I1 : mh_I) (L1 : mh_L) (I2 : mh_I) (a1 a2 a3 : Int32), Rel T I1 L1 I2 → ∃ (q : Int32 × mh_I × mh_L) (r : Int32 × mh_I), X5_left a1 a2 a3 I1 L1 = some q ∧ X6_left a1 a2 a3 I2 = some r ∧ q.1 = r.1 ∧ Rel T q.2.1 q.2.2 r.2
set_option maxHeartbeats 4000000 in
set_option maxRecDepth 100000 in
theorem lc_left (Rel : Option Nat → mh_I → mh_L → mh_I → Prop) (hT : ∀ T I1 L1 I2, Rel T I1 L1 I2 → ∀ t, T = some t → t < 46) (hR : RS_left Rel) {L0 k : Nat} {xs : Nat → Int32} (hL : L0 ≤ 3584) (hi : k + 7 ≤ L0) {T : Option Nat} {I1 I2 : mh_I} {L1 L2 : mh_L} (hrel : Rel T I1 L1 I2) (kk : ∀ T1 J1 K1 J2, Rel T1 J1 K1 J2 → ml_W L0 xs T1 J1 K1 J2 L2 1806 [(0, .ref 1002), (1, .ref 900), (2, .ref 901), (3, .int (nI k))] []) : ml_W L0 xs T I1 L1 I2 L2 711 [(0, .ref 1002), (1, .ref 900), (2, .ref 901), (3, .int (nI k))] [] := by
  obtain ⟨q, r, h5, h6, hv, hrel⟩ := hR T I1 L1 I2 (xs (nI k + 1).toNatClampNeg) (xs (nI k + 2).toNatClampNeg) (xs (nI k + 3).toNatClampNeg) hrel
  refine ml_aload_n dL_law_711 1 rfl ?_
  refine ml_aload_n dL_law_712 0 rfl ?_
  refine ml_iload_n dL_law_713 3 rfl ?_
  refine ml_iconst (v := 1) dL_law_714 (by decide) ?_
  refine ml_iadd dL_law_715 ?_
  refine ml_sld (li_in (j := 1) hL hi (by decide)) dL_law_716 ?_
  refine ml_aload_n dL_law_717 0 rfl ?_
  refine ml_iload_n dL_law_718 3 rfl ?_
  refine ml_iconst (v := 2) dL_law_719 (by decide) ?_
  refine ml_iadd dL_law_720 ?_
  refine ml_sld (li_in (j := 2) hL hi (by decide)) dL_law_721 ?_
  refine ml_aload_n dL_law_722 0 rfl ?_
  refine ml_iload_n dL_law_723 3 rfl ?_
  refine ml_iconst (v := 3) dL_law_724 (by decide) ?_
  refine ml_iadd dL_law_725 ?_
  refine ml_sld (li_in (j := 3) hL hi (by decide)) dL_law_726 ?_
  refine ml_callX (dc := 6) (k := 3) (v := .int q.1) (T' := T) cv_L_77 wd_496 rfl wd_499 dL_law_727 [.int (xs (nI k + 1).toNatClampNeg), .int (xs (nI k + 2).toNatClampNeg), .int (xs (nI k + 3).toNatClampNeg)] [.int (xs (nI k + 3).toNatClampNeg), .int (xs (nI k + 2).toNatClampNeg), .int (xs (nI k + 1).toNatClampNeg), .ref 900] rfl rfl (fun f => rfl) (fun f => rfl) (fun f => rfl) (t_X5_left h5) (fun _ _ _ _ h => h) (fun h => h) ⟨by decide, by decide⟩ (Nat.le_of_ble_eq_true rfl) ?_
  refine ml_aload_n dL_law_730 2 rfl ?_
  refine ml_aload_n dL_law_731 0 rfl ?_
  refine ml_iload_n dL_law_732 3 rfl ?_
  refine ml_iconst (v := 1) dL_law_733 (by decide) ?_
  refine ml_iadd dL_law_734 ?_
  refine ml_sld (li_in (j := 1) hL hi (by decide)) dL_law_735 ?_
  refine ml_aload_n dL_law_736 0 rfl ?_
  refine ml_iload_n dL_law_737 3 rfl ?_
  refine ml_iconst (v := 2) dL_law_738 (by decide) ?_
  refine ml_iadd dL_law_739 ?_
  refine ml_sld (li_in (j := 2) hL hi (by decide)) dL_law_740 ?_
  refine ml_aload_n dL_law_741 0 rfl ?_
  refine ml_iload_n dL_law_742 3 rfl ?_
  refine ml_iconst (v := 3) dL_law_743 (by decide) ?_
  refine ml_iadd dL_law_744 ?_
  refine ml_sld (li_in (j := 3) hL hi (by decide)) dL_law_745 ?_
  refine ml_callM (dc := 7) (k := 3) (v := .int r.1) cv_L_80 wd_993 rfl wd_996 dL_law_746 [.int (xs (nI k + 1).toNatClampNeg), .int (xs (nI k + 2).toNatClampNeg), .int (xs (nI k + 3).toNatClampNeg)] [.int (xs (nI k + 3).toNatClampNeg), .int (xs (nI k + 2).toNatClampNeg), .int (xs (nI k + 1).toNatClampNeg), .ref 901, .int q.1] rfl rfl (fun f => rfl) (fun f => rfl) (fun f => rfl) (t_X6_left h6) (fun _ _ _ _ h => h) ⟨by decide, by decide⟩ (Nat.le_of_ble_eq_true rfl) ?_
  refine ml_icmp_eq (tgt := 1806) dL_law_749 (by decide) hv ?_
  exact kk _ _ _ _ hrel
def RS_most (Rel : Option Nat → mh_I → mh_L → mh_I → Prop) : Prop := ∀ (T : Option Nat) (I1 : mh_I) (L1 : mh_L) (I2 : mh_I) (a1 a2 : Int32), Rel T I1 L1 I2 → ∃ (q : Int32 × mh_I × mh_L) (r : Int32 × mh_I), X5_most a1 a2 I1 L1 = some q ∧ X6_most a1 a2 I2 = some r ∧ q.1 = r.1 ∧ Rel T q.2.1 q.2.2 r.2
set_option maxHeartbeats 4000000 in
set_option maxRecDepth 100000 in
theorem lc_most (Rel : Option Nat → mh_I → mh_L → mh_I → Prop) (hT : ∀ T I1 L1 I2, Rel T I1 L1 I2 → ∀ t, T = some t → t < 46) (hR : RS_most Rel) {L0 k : Nat} {xs : Nat → Int32} (hL : L0 ≤ 3584) (hi : k + 7 ≤ L0) {T : Option Nat} {I1 I2 : mh_I} {L1 L2 : mh_L} (hrel : Rel T I1 L1 I2) (kk : ∀ T1 J1 K1 J2, Rel T1 J1 K1 J2 → ml_W L0 xs T1 J1 K1 J2 L2 1806 [(0, .ref 1002), (1, .ref 900), (2, .ref 901), (3, .int (nI k))] []) : ml_W L0 xs T I1 L1 I2 L2 754 [(0, .ref 1002), (1, .ref 900), (2, .ref 901), (3, .int (nI k))] [] := by
  obtain ⟨q, r, h5, h6, hv, hrel⟩ := hR T I1 L1 I2 (xs (nI k + 1).toNatClampNeg) (xs (nI k + 2).toNatClampNeg) hrel
  refine ml_aload_n dL_law_754 1 rfl ?_
  refine ml_aload_n dL_law_755 0 rfl ?_
  refine ml_iload_n dL_law_756 3 rfl ?_
  refine ml_iconst (v := 1) dL_law_757 (by decide) ?_
  refine ml_iadd dL_law_758 ?_
  refine ml_sld (li_in (j := 1) hL hi (by decide)) dL_law_759 ?_
  refine ml_aload_n dL_law_760 0 rfl ?_
  refine ml_iload_n dL_law_761 3 rfl ?_
  refine ml_iconst (v := 2) dL_law_762 (by decide) ?_
  refine ml_iadd dL_law_763 ?_
  refine ml_sld (li_in (j := 2) hL hi (by decide)) dL_law_764 ?_
  refine ml_callX (dc := 6) (k := 2) (v := .int q.1) (T' := T) cv_L_81 wd_500 rfl wd_503 dL_law_765 [.int (xs (nI k + 1).toNatClampNeg), .int (xs (nI k + 2).toNatClampNeg)] [.int (xs (nI k + 2).toNatClampNeg), .int (xs (nI k + 1).toNatClampNeg), .ref 900] rfl rfl (fun f => rfl) (fun f => rfl) (fun f => rfl) (t_X5_most h5) (fun _ _ _ _ h => h) (fun h => h) ⟨by decide, by decide⟩ (Nat.le_of_ble_eq_true rfl) ?_
  refine ml_aload_n dL_law_768 2 rfl ?_
  refine ml_aload_n dL_law_769 0 rfl ?_
  refine ml_iload_n dL_law_770 3 rfl ?_
  refine ml_iconst (v := 1) dL_law_771 (by decide) ?_
  refine ml_iadd dL_law_772 ?_
  refine ml_sld (li_in (j := 1) hL hi (by decide)) dL_law_773 ?_
  refine ml_aload_n dL_law_774 0 rfl ?_
  refine ml_iload_n dL_law_775 3 rfl ?_
  refine ml_iconst (v := 2) dL_law_776 (by decide) ?_
  refine ml_iadd dL_law_777 ?_
  refine ml_sld (li_in (j := 2) hL hi (by decide)) dL_law_778 ?_
  refine ml_callM (dc := 7) (k := 2) (v := .int r.1) cv_L_84 wd_997 rfl wd_1000 dL_law_779 [.int (xs (nI k + 1).toNatClampNeg), .int (xs (nI k + 2).toNatClampNeg)] [.int (xs (nI k + 2).toNatClampNeg), .int (xs (nI k + 1).toNatClampNeg), .ref 901, .int q.1] rfl rfl (fun f => rfl) (fun f => rfl) (fun f => rfl) (t_X6_most h6) (fun _ _ _ _ h => h) ⟨by decide, by decide⟩ (Nat.le_of_ble_eq_true rfl) ?_
  refine ml_icmp_eq (tgt := 1806) dL_law_782 (by decide) hv ?_
  exact kk _ _ _ _ hrel
def RS_column (Rel : Option Nat → mh_I → mh_L → mh_I → Prop) : Prop := ∀ (T : Option Nat) (I1 : mh_I) (L1 : mh_L) (I2 : mh_I) (a1 a2 a3 : Int32), Rel T I1 L1 I2 → ∃ (q : Int32 × mh_I × mh_L) (r : Int32 × mh_I), X5_column a1 a2 a3 I1 L1 = some q ∧ X6_column a1 a2 a3 I2 = some r ∧ q.1 = r.1 ∧ Rel T q.2.1 q.2.2 r.2
set_option maxHeartbeats 4000000 in
set_option maxRecDepth 100000 in
theorem lc_column (Rel : Option Nat → mh_I → mh_L → mh_I → Prop) (hT : ∀ T I1 L1 I2, Rel T I1 L1 I2 → ∀ t, T = some t → t < 46) (hR : RS_column Rel) {L0 k : Nat} {xs : Nat → Int32} (hL : L0 ≤ 3584) (hi : k + 7 ≤ L0) {T : Option Nat} {I1 I2 : mh_I} {L1 L2 : mh_L} (hrel : Rel T I1 L1 I2) (kk : ∀ T1 J1 K1 J2, Rel T1 J1 K1 J2 → ml_W L0 xs T1 J1 K1 J2 L2 1806 [(0, .ref 1002), (1, .ref 900), (2, .ref 901), (3, .int (nI k))] []) : ml_W L0 xs T I1 L1 I2 L2 787 [(0, .ref 1002), (1, .ref 900), (2, .ref 901), (3, .int (nI k))] [] := by
  obtain ⟨q, r, h5, h6, hv, hrel⟩ := hR T I1 L1 I2 (xs (nI k + 1).toNatClampNeg) (xs (nI k + 2).toNatClampNeg) (xs (nI k + 3).toNatClampNeg) hrel
  refine ml_aload_n dL_law_787 1 rfl ?_
  refine ml_aload_n dL_law_788 0 rfl ?_
  refine ml_iload_n dL_law_789 3 rfl ?_
  refine ml_iconst (v := 1) dL_law_790 (by decide) ?_
  refine ml_iadd dL_law_791 ?_
  refine ml_sld (li_in (j := 1) hL hi (by decide)) dL_law_792 ?_
  refine ml_aload_n dL_law_793 0 rfl ?_
  refine ml_iload_n dL_law_794 3 rfl ?_
  refine ml_iconst (v := 2) dL_law_795 (by decide) ?_
  refine ml_iadd dL_law_796 ?_
  refine ml_sld (li_in (j := 2) hL hi (by decide)) dL_law_797 ?_
  refine ml_aload_n dL_law_798 0 rfl ?_
  refine ml_iload_n dL_law_799 3 rfl ?_
  refine ml_iconst (v := 3) dL_law_800 (by decide) ?_
  refine ml_iadd dL_law_801 ?_
  refine ml_sld (li_in (j := 3) hL hi (by decide)) dL_law_802 ?_
  refine ml_callX (dc := 5) (k := 3) (v := .int q.1) (T' := T) cv_L_85 wd_504 rfl wd_507 dL_law_803 [.int (xs (nI k + 1).toNatClampNeg), .int (xs (nI k + 2).toNatClampNeg), .int (xs (nI k + 3).toNatClampNeg)] [.int (xs (nI k + 3).toNatClampNeg), .int (xs (nI k + 2).toNatClampNeg), .int (xs (nI k + 1).toNatClampNeg), .ref 900] rfl rfl (fun f => rfl) (fun f => rfl) (fun f => rfl) (t_X5_column h5) (fun _ _ _ _ h => h) (fun h => h) ⟨by decide, by decide⟩ (Nat.le_of_ble_eq_true rfl) ?_
  refine ml_aload_n dL_law_806 2 rfl ?_
  refine ml_aload_n dL_law_807 0 rfl ?_
  refine ml_iload_n dL_law_808 3 rfl ?_
  refine ml_iconst (v := 1) dL_law_809 (by decide) ?_
  refine ml_iadd dL_law_810 ?_
  refine ml_sld (li_in (j := 1) hL hi (by decide)) dL_law_811 ?_
  refine ml_aload_n dL_law_812 0 rfl ?_
  refine ml_iload_n dL_law_813 3 rfl ?_
  refine ml_iconst (v := 2) dL_law_814 (by decide) ?_
  refine ml_iadd dL_law_815 ?_
  refine ml_sld (li_in (j := 2) hL hi (by decide)) dL_law_816 ?_
  refine ml_aload_n dL_law_817 0 rfl ?_
  refine ml_iload_n dL_law_818 3 rfl ?_
  refine ml_iconst (v := 3) dL_law_819 (by decide) ?_
  refine ml_iadd dL_law_820 ?_
  refine ml_sld (li_in (j := 3) hL hi (by decide)) dL_law_821 ?_
  refine ml_callM (dc := 6) (k := 3) (v := .int r.1) cv_L_88 wd_1001 rfl wd_1004 dL_law_822 [.int (xs (nI k + 1).toNatClampNeg), .int (xs (nI k + 2).toNatClampNeg), .int (xs (nI k + 3).toNatClampNeg)] [.int (xs (nI k + 3).toNatClampNeg), .int (xs (nI k + 2).toNatClampNeg), .int (xs (nI k + 1).toNatClampNeg), .ref 901, .int q.1] rfl rfl (fun f => rfl) (fun f => rfl) (fun f => rfl) (t_X6_column h6) (fun _ _ _ _ h => h) ⟨by decide, by decide⟩ (Nat.le_of_ble_eq_true rfl) ?_
  refine ml_icmp_eq (tgt := 1806) dL_law_825 (by decide) hv ?_
  exact kk _ _ _ _ hrel
def RS_line (Rel : Option Nat → mh_I → mh_L → mh_I → Prop) : Prop := ∀ (T : Option Nat) (I1 : mh_I) (L1 : mh_L) (I2 : mh_I) (a1 a2 : Int32), Rel T I1 L1 I2 → ∃ (q : Int32 × mh_I × mh_L) (r : Int32 × mh_I), X5_line a1 a2 I1 L1 = some q ∧ X6_line a1 a2 I2 = some r ∧ q.1 = r.1 ∧ Rel T q.2.1 q.2.2 r.2
set_option maxHeartbeats 4000000 in
set_option maxRecDepth 100000 in
theorem lc_line (Rel : Option Nat → mh_I → mh_L → mh_I → Prop) (hT : ∀ T I1 L1 I2, Rel T I1 L1 I2 → ∀ t, T = some t → t < 46) (hR : RS_line Rel) {L0 k : Nat} {xs : Nat → Int32} (hL : L0 ≤ 3584) (hi : k + 7 ≤ L0) {T : Option Nat} {I1 I2 : mh_I} {L1 L2 : mh_L} (hrel : Rel T I1 L1 I2) (kk : ∀ T1 J1 K1 J2, Rel T1 J1 K1 J2 → ml_W L0 xs T1 J1 K1 J2 L2 1806 [(0, .ref 1002), (1, .ref 900), (2, .ref 901), (3, .int (nI k))] []) : ml_W L0 xs T I1 L1 I2 L2 830 [(0, .ref 1002), (1, .ref 900), (2, .ref 901), (3, .int (nI k))] [] := by
  obtain ⟨q, r, h5, h6, hv, hrel⟩ := hR T I1 L1 I2 (xs (nI k + 1).toNatClampNeg) (xs (nI k + 2).toNatClampNeg) hrel
  refine ml_aload_n dL_law_830 1 rfl ?_
  refine ml_aload_n dL_law_831 0 rfl ?_
  refine ml_iload_n dL_law_832 3 rfl ?_
  refine ml_iconst (v := 1) dL_law_833 (by decide) ?_
  refine ml_iadd dL_law_834 ?_
  refine ml_sld (li_in (j := 1) hL hi (by decide)) dL_law_835 ?_
  refine ml_aload_n dL_law_836 0 rfl ?_
  refine ml_iload_n dL_law_837 3 rfl ?_
  refine ml_iconst (v := 2) dL_law_838 (by decide) ?_
  refine ml_iadd dL_law_839 ?_
  refine ml_sld (li_in (j := 2) hL hi (by decide)) dL_law_840 ?_
  refine ml_callX (dc := 6) (k := 2) (v := .int q.1) (T' := T) cv_L_89 wd_508 rfl wd_511 dL_law_841 [.int (xs (nI k + 1).toNatClampNeg), .int (xs (nI k + 2).toNatClampNeg)] [.int (xs (nI k + 2).toNatClampNeg), .int (xs (nI k + 1).toNatClampNeg), .ref 900] rfl rfl (fun f => rfl) (fun f => rfl) (fun f => rfl) (t_X5_line h5) (fun _ _ _ _ h => h) (fun h => h) ⟨by decide, by decide⟩ (Nat.le_of_ble_eq_true rfl) ?_
  refine ml_aload_n dL_law_844 2 rfl ?_
  refine ml_aload_n dL_law_845 0 rfl ?_
  refine ml_iload_n dL_law_846 3 rfl ?_
  refine ml_iconst (v := 1) dL_law_847 (by decide) ?_
  refine ml_iadd dL_law_848 ?_
  refine ml_sld (li_in (j := 1) hL hi (by decide)) dL_law_849 ?_
  refine ml_aload_n dL_law_850 0 rfl ?_
  refine ml_iload_n dL_law_851 3 rfl ?_
  refine ml_iconst (v := 2) dL_law_852 (by decide) ?_
  refine ml_iadd dL_law_853 ?_
  refine ml_sld (li_in (j := 2) hL hi (by decide)) dL_law_854 ?_
  refine ml_callM (dc := 7) (k := 2) (v := .int r.1) cv_L_92 wd_1005 rfl wd_1008 dL_law_855 [.int (xs (nI k + 1).toNatClampNeg), .int (xs (nI k + 2).toNatClampNeg)] [.int (xs (nI k + 2).toNatClampNeg), .int (xs (nI k + 1).toNatClampNeg), .ref 901, .int q.1] rfl rfl (fun f => rfl) (fun f => rfl) (fun f => rfl) (t_X6_line h6) (fun _ _ _ _ h => h) ⟨by decide, by decide⟩ (Nat.le_of_ble_eq_true rfl) ?_
  refine ml_icmp_eq (tgt := 1806) dL_law_858 (by decide) hv ?_
  exact kk _ _ _ _ hrel
def RS_reach (Rel : Option Nat → mh_I → mh_L → mh_I → Prop) : Prop := ∀ (T : Option Nat) (I1 : mh_I) (L1 : mh_L) (I2 : mh_I) (a1 a2 : Int32), Rel T I1 L1 I2 → ∃ (q : Int32 × mh_I × mh_L) (r : Int32 × mh_I), X5_reach a1 a2 I1 L1 = some q ∧ X6_reach a1 a2 I2 = some r ∧ q.1 = r.1 ∧ Rel T q.2.1 q.2.2 r.2
set_option maxHeartbeats 4000000 in
set_option maxRecDepth 100000 in
theorem lc_reach (Rel : Option Nat → mh_I → mh_L → mh_I → Prop) (hT : ∀ T I1 L1 I2, Rel T I1 L1 I2 → ∀ t, T = some t → t < 46) (hR : RS_reach Rel) {L0 k : Nat} {xs : Nat → Int32} (hL : L0 ≤ 3584) (hi : k + 7 ≤ L0) {T : Option Nat} {I1 I2 : mh_I} {L1 L2 : mh_L} (hrel : Rel T I1 L1 I2) (kk : ∀ T1 J1 K1 J2, Rel T1 J1 K1 J2 → ml_W L0 xs T1 J1 K1 J2 L2 1806 [(0, .ref 1002), (1, .ref 900), (2, .ref 901), (3, .int (nI k))] []) : ml_W L0 xs T I1 L1 I2 L2 863 [(0, .ref 1002), (1, .ref 900), (2, .ref 901), (3, .int (nI k))] [] := by
  obtain ⟨q, r, h5, h6, hv, hrel⟩ := hR T I1 L1 I2 (xs (nI k + 1).toNatClampNeg) (xs (nI k + 2).toNatClampNeg) hrel
  refine ml_aload_n dL_law_863 1 rfl ?_
  refine ml_aload_n dL_law_864 0 rfl ?_
  refine ml_iload_n dL_law_865 3 rfl ?_
  refine ml_iconst (v := 1) dL_law_866 (by decide) ?_
  refine ml_iadd dL_law_867 ?_
  refine ml_sld (li_in (j := 1) hL hi (by decide)) dL_law_868 ?_
  refine ml_aload_n dL_law_869 0 rfl ?_
  refine ml_iload_n dL_law_870 3 rfl ?_
  refine ml_iconst (v := 2) dL_law_871 (by decide) ?_
  refine ml_iadd dL_law_872 ?_
  refine ml_sld (li_in (j := 2) hL hi (by decide)) dL_law_873 ?_
  refine ml_callX (dc := 6) (k := 2) (v := .int q.1) (T' := T) cv_L_93 wd_512 rfl wd_515 dL_law_874 [.int (xs (nI k + 1).toNatClampNeg), .int (xs (nI k + 2).toNatClampNeg)] [.int (xs (nI k + 2).toNatClampNeg), .int (xs (nI k + 1).toNatClampNeg), .ref 900] rfl rfl (fun f => rfl) (fun f => rfl) (fun f => rfl) (t_X5_reach h5) (fun _ _ _ _ h => h) (fun h => h) ⟨by decide, by decide⟩ (Nat.le_of_ble_eq_true rfl) ?_
  refine ml_aload_n dL_law_877 2 rfl ?_
  refine ml_aload_n dL_law_878 0 rfl ?_
  refine ml_iload_n dL_law_879 3 rfl ?_
  refine ml_iconst (v := 1) dL_law_880 (by decide) ?_
  refine ml_iadd dL_law_881 ?_
  refine ml_sld (li_in (j := 1) hL hi (by decide)) dL_law_882 ?_
  refine ml_aload_n dL_law_883 0 rfl ?_
  refine ml_iload_n dL_law_884 3 rfl ?_
  refine ml_iconst (v := 2) dL_law_885 (by decide) ?_
  refine ml_iadd dL_law_886 ?_
  refine ml_sld (li_in (j := 2) hL hi (by decide)) dL_law_887 ?_
  refine ml_callM (dc := 7) (k := 2) (v := .int r.1) cv_L_96 wd_1009 rfl wd_1012 dL_law_888 [.int (xs (nI k + 1).toNatClampNeg), .int (xs (nI k + 2).toNatClampNeg)] [.int (xs (nI k + 2).toNatClampNeg), .int (xs (nI k + 1).toNatClampNeg), .ref 901, .int q.1] rfl rfl (fun f => rfl) (fun f => rfl) (fun f => rfl) (t_X6_reach h6) (fun _ _ _ _ h => h) ⟨by decide, by decide⟩ (Nat.le_of_ble_eq_true rfl) ?_
  refine ml_icmp_eq (tgt := 1806) dL_law_891 (by decide) hv ?_
  exact kk _ _ _ _ hrel
def RS_two (Rel : Option Nat → mh_I → mh_L → mh_I → Prop) : Prop := ∀ (T : Option Nat) (I1 : mh_I) (L1 : mh_L) (I2 : mh_I) (a1 a2 : Int32), Rel T I1 L1 I2 → ∃ (q : Int32 × mh_I × mh_L) (r : Int32 × mh_I), X5_two a1 a2 I1 L1 = some q ∧ X6_two_ a1 a2 I2 = some r ∧ q.1 = r.1 ∧ Rel T q.2.1 q.2.2 r.2
set_option maxHeartbeats 4000000 in
set_option maxRecDepth 100000 in
theorem lc_two (Rel : Option Nat → mh_I → mh_L → mh_I → Prop) (hT : ∀ T I1 L1 I2, Rel T I1 L1 I2 → ∀ t, T = some t → t < 46) (hR : RS_two Rel) {L0 k : Nat} {xs : Nat → Int32} (hL : L0 ≤ 3584) (hi : k + 7 ≤ L0) {T : Option Nat} {I1 I2 : mh_I} {L1 L2 : mh_L} (hrel : Rel T I1 L1 I2) (kk : ∀ T1 J1 K1 J2, Rel T1 J1 K1 J2 → ml_W L0 xs T1 J1 K1 J2 L2 1806 [(0, .ref 1002), (1, .ref 900), (2, .ref 901), (3, .int (nI k))] []) : ml_W L0 xs T I1 L1 I2 L2 896 [(0, .ref 1002), (1, .ref 900), (2, .ref 901), (3, .int (nI k))] [] := by
  obtain ⟨q, r, h5, h6, hv, hrel⟩ := hR T I1 L1 I2 (xs (nI k + 1).toNatClampNeg) (xs (nI k + 2).toNatClampNeg) hrel
  refine ml_aload_n dL_law_896 1 rfl ?_
  refine ml_aload_n dL_law_897 0 rfl ?_
  refine ml_iload_n dL_law_898 3 rfl ?_
  refine ml_iconst (v := 1) dL_law_899 (by decide) ?_
  refine ml_iadd dL_law_900 ?_
  refine ml_sld (li_in (j := 1) hL hi (by decide)) dL_law_901 ?_
  refine ml_aload_n dL_law_902 0 rfl ?_
  refine ml_iload_n dL_law_903 3 rfl ?_
  refine ml_iconst (v := 2) dL_law_904 (by decide) ?_
  refine ml_iadd dL_law_905 ?_
  refine ml_sld (li_in (j := 2) hL hi (by decide)) dL_law_906 ?_
  refine ml_callX (dc := 6) (k := 2) (v := .int q.1) (T' := T) cv_L_97 wd_516 rfl wd_519 dL_law_907 [.int (xs (nI k + 1).toNatClampNeg), .int (xs (nI k + 2).toNatClampNeg)] [.int (xs (nI k + 2).toNatClampNeg), .int (xs (nI k + 1).toNatClampNeg), .ref 900] rfl rfl (fun f => rfl) (fun f => rfl) (fun f => rfl) (t_X5_two h5) (fun _ _ _ _ h => h) (fun h => h) ⟨by decide, by decide⟩ (Nat.le_of_ble_eq_true rfl) ?_
  refine ml_aload_n dL_law_910 2 rfl ?_
  refine ml_aload_n dL_law_911 0 rfl ?_
  refine ml_iload_n dL_law_912 3 rfl ?_
  refine ml_iconst (v := 1) dL_law_913 (by decide) ?_
  refine ml_iadd dL_law_914 ?_
  refine ml_sld (li_in (j := 1) hL hi (by decide)) dL_law_915 ?_
  refine ml_aload_n dL_law_916 0 rfl ?_
  refine ml_iload_n dL_law_917 3 rfl ?_
  refine ml_iconst (v := 2) dL_law_918 (by decide) ?_
  refine ml_iadd dL_law_919 ?_
  refine ml_sld (li_in (j := 2) hL hi (by decide)) dL_law_920 ?_
  refine ml_callM (dc := 8) (k := 2) (v := .int r.1) cv_L_100 wd_1013 rfl wd_1016 dL_law_921 [.int (xs (nI k + 1).toNatClampNeg), .int (xs (nI k + 2).toNatClampNeg)] [.int (xs (nI k + 2).toNatClampNeg), .int (xs (nI k + 1).toNatClampNeg), .ref 901, .int q.1] rfl rfl (fun f => rfl) (fun f => rfl) (fun f => rfl) (t_X6_two_ h6) (fun _ _ _ _ h => h) ⟨by decide, by decide⟩ (Nat.le_of_ble_eq_true rfl) ?_
  refine ml_icmp_eq (tgt := 1806) dL_law_924 (by decide) hv ?_
  exact kk _ _ _ _ hrel
def RS_all (Rel : Option Nat → mh_I → mh_L → mh_I → Prop) : Prop := ∀ (T : Option Nat) (I1 : mh_I) (L1 : mh_L) (I2 : mh_I) (a1 : Int32), Rel T I1 L1 I2 → ∃ (q : Int32 × mh_I × mh_L) (r : Int32 × mh_I), X5_all a1 I1 L1 = some q ∧ X6_all a1 I2 = some r ∧ q.1 = r.1 ∧ Rel T q.2.1 q.2.2 r.2
set_option maxHeartbeats 4000000 in
set_option maxRecDepth 100000 in
theorem lc_all (Rel : Option Nat → mh_I → mh_L → mh_I → Prop) (hT : ∀ T I1 L1 I2, Rel T I1 L1 I2 → ∀ t, T = some t → t < 46) (hR : RS_all Rel) {L0 k : Nat} {xs : Nat → Int32} (hL : L0 ≤ 3584) (hi : k + 7 ≤ L0) {T : Option Nat} {I1 I2 : mh_I} {L1 L2 : mh_L} (hrel : Rel T I1 L1 I2) (kk : ∀ T1 J1 K1 J2, Rel T1 J1 K1 J2 → ml_W L0 xs T1 J1 K1 J2 L2 1806 [(0, .ref 1002), (1, .ref 900), (2, .ref 901), (3, .int (nI k))] []) : ml_W L0 xs T I1 L1 I2 L2 929 [(0, .ref 1002), (1, .ref 900), (2, .ref 901), (3, .int (nI k))] [] := by
  obtain ⟨q, r, h5, h6, hv, hrel⟩ := hR T I1 L1 I2 (xs (nI k + 1).toNatClampNeg) hrel
  refine ml_aload_n dL_law_929 1 rfl ?_
  refine ml_aload_n dL_law_930 0 rfl ?_
  refine ml_iload_n dL_law_931 3 rfl ?_
  refine ml_iconst (v := 1) dL_law_932 (by decide) ?_
  refine ml_iadd dL_law_933 ?_
  refine ml_sld (li_in (j := 1) hL hi (by decide)) dL_law_934 ?_
  refine ml_callX (dc := 6) (k := 1) (v := .int q.1) (T' := T) cv_L_101 wd_524 rfl wd_527 dL_law_935 [.int (xs (nI k + 1).toNatClampNeg)] [.int (xs (nI k + 1).toNatClampNeg), .ref 900] rfl rfl (fun f => rfl) (fun f => rfl) (fun f => rfl) (t_X5_all h5) (fun _ _ _ _ h => h) (fun h => h) ⟨by decide, by decide⟩ (Nat.le_of_ble_eq_true rfl) ?_
  refine ml_aload_n dL_law_938 2 rfl ?_
  refine ml_aload_n dL_law_939 0 rfl ?_
  refine ml_iload_n dL_law_940 3 rfl ?_
  refine ml_iconst (v := 1) dL_law_941 (by decide) ?_
  refine ml_iadd dL_law_942 ?_
  refine ml_sld (li_in (j := 1) hL hi (by decide)) dL_law_943 ?_
  refine ml_callM (dc := 7) (k := 1) (v := .int r.1) cv_L_104 wd_1025 rfl wd_1028 dL_law_944 [.int (xs (nI k + 1).toNatClampNeg)] [.int (xs (nI k + 1).toNatClampNeg), .ref 901, .int q.1] rfl rfl (fun f => rfl) (fun f => rfl) (fun f => rfl) (t_X6_all h6) (fun _ _ _ _ h => h) ⟨by decide, by decide⟩ (Nat.le_of_ble_eq_true rfl) ?_
  refine ml_icmp_eq (tgt := 1806) dL_law_947 (by decide) hv ?_
  exact kk _ _ _ _ hrel
def RS_counts (Rel : Option Nat → mh_I → mh_L → mh_I → Prop) : Prop := ∀ (T : Option Nat) (I1 : mh_I) (L1 : mh_L) (I2 : mh_I) (a1 a2 : Int32), Rel T I1 L1 I2 → ∃ (q : Int32) (r : Int32), X5_counts a1 a2 I1 = some q ∧ X6_counts a1 a2 I2 = some r ∧ q = r ∧ Rel T I1 L1 I2
set_option maxHeartbeats 4000000 in
set_option maxRecDepth 100000 in
theorem lc_counts (Rel : Option Nat → mh_I → mh_L → mh_I → Prop) (hT : ∀ T I1 L1 I2, Rel T I1 L1 I2 → ∀ t, T = some t → t < 46) (hR : RS_counts Rel) {L0 k : Nat} {xs : Nat → Int32} (hL : L0 ≤ 3584) (hi : k + 7 ≤ L0) {T : Option Nat} {I1 I2 : mh_I} {L1 L2 : mh_L} (hrel : Rel T I1 L1 I2) (kk : ∀ T1 J1 K1 J2, Rel T1 J1 K1 J2 → ml_W L0 xs T1 J1 K1 J2 L2 1806 [(0, .ref 1002), (1, .ref 900), (2, .ref 901), (3, .int (nI k))] []) : ml_W L0 xs T I1 L1 I2 L2 952 [(0, .ref 1002), (1, .ref 900), (2, .ref 901), (3, .int (nI k))] [] := by
  obtain ⟨q, r, h5, h6, hv, hrel⟩ := hR T I1 L1 I2 (xs (nI k + 1).toNatClampNeg) (xs (nI k + 2).toNatClampNeg) hrel
  refine ml_aload_n dL_law_952 1 rfl ?_
  refine ml_aload_n dL_law_953 0 rfl ?_
  refine ml_iload_n dL_law_954 3 rfl ?_
  refine ml_iconst (v := 1) dL_law_955 (by decide) ?_
  refine ml_iadd dL_law_956 ?_
  refine ml_sld (li_in (j := 1) hL hi (by decide)) dL_law_957 ?_
  refine ml_aload_n dL_law_958 0 rfl ?_
  refine ml_iload_n dL_law_959 3 rfl ?_
  refine ml_iconst (v := 2) dL_law_960 (by decide) ?_
  refine ml_iadd dL_law_961 ?_
  refine ml_sld (li_in (j := 2) hL hi (by decide)) dL_law_962 ?_
  refine ml_callX (dc := 3) (k := 2) (v := .int q) (T' := T) cv_L_105 wd_528 rfl wd_531 dL_law_963 [.int (xs (nI k + 1).toNatClampNeg), .int (xs (nI k + 2).toNatClampNeg)] [.int (xs (nI k + 2).toNatClampNeg), .int (xs (nI k + 1).toNatClampNeg), .ref 900] rfl rfl (fun f => rfl) (fun f => rfl) (fun f => rfl) (t_X5_counts h5) (fun _ _ _ _ h => h) (fun h => h) ⟨by decide, by decide⟩ (Nat.le_of_ble_eq_true rfl) ?_
  refine ml_aload_n dL_law_966 2 rfl ?_
  refine ml_aload_n dL_law_967 0 rfl ?_
  refine ml_iload_n dL_law_968 3 rfl ?_
  refine ml_iconst (v := 1) dL_law_969 (by decide) ?_
  refine ml_iadd dL_law_970 ?_
  refine ml_sld (li_in (j := 1) hL hi (by decide)) dL_law_971 ?_
  refine ml_aload_n dL_law_972 0 rfl ?_
  refine ml_iload_n dL_law_973 3 rfl ?_
  refine ml_iconst (v := 2) dL_law_974 (by decide) ?_
  refine ml_iadd dL_law_975 ?_
  refine ml_sld (li_in (j := 2) hL hi (by decide)) dL_law_976 ?_
  refine ml_callM (dc := 4) (k := 2) (v := .int r) cv_L_108 wd_1029 rfl wd_1032 dL_law_977 [.int (xs (nI k + 1).toNatClampNeg), .int (xs (nI k + 2).toNatClampNeg)] [.int (xs (nI k + 2).toNatClampNeg), .int (xs (nI k + 1).toNatClampNeg), .ref 901, .int q] rfl rfl (fun f => rfl) (fun f => rfl) (fun f => rfl) (t_X6_counts h6) (fun _ _ _ _ h => h) ⟨by decide, by decide⟩ (Nat.le_of_ble_eq_true rfl) ?_
  refine ml_icmp_eq (tgt := 1806) dL_law_980 (by decide) hv ?_
  exact kk _ _ _ _ hrel
def RS_slip (Rel : Option Nat → mh_I → mh_L → mh_I → Prop) : Prop := ∀ (T : Option Nat) (I1 : mh_I) (L1 : mh_L) (I2 : mh_I) (a1 : Int32), Rel T I1 L1 I2 → ∃ (q : Int32) (r : Int32), X5_slip a1 I1 = some q ∧ X6_slip a1 I2 = some r ∧ q = r ∧ Rel T I1 L1 I2
set_option maxHeartbeats 4000000 in
set_option maxRecDepth 100000 in
theorem lc_slip (Rel : Option Nat → mh_I → mh_L → mh_I → Prop) (hT : ∀ T I1 L1 I2, Rel T I1 L1 I2 → ∀ t, T = some t → t < 46) (hR : RS_slip Rel) {L0 k : Nat} {xs : Nat → Int32} (hL : L0 ≤ 3584) (hi : k + 7 ≤ L0) {T : Option Nat} {I1 I2 : mh_I} {L1 L2 : mh_L} (hrel : Rel T I1 L1 I2) (kk : ∀ T1 J1 K1 J2, Rel T1 J1 K1 J2 → ml_W L0 xs T1 J1 K1 J2 L2 1806 [(0, .ref 1002), (1, .ref 900), (2, .ref 901), (3, .int (nI k))] []) : ml_W L0 xs T I1 L1 I2 L2 985 [(0, .ref 1002), (1, .ref 900), (2, .ref 901), (3, .int (nI k))] [] := by
  obtain ⟨q, r, h5, h6, hv, hrel⟩ := hR T I1 L1 I2 (xs (nI k + 1).toNatClampNeg) hrel
  refine ml_aload_n dL_law_985 1 rfl ?_
  refine ml_aload_n dL_law_986 0 rfl ?_
  refine ml_iload_n dL_law_987 3 rfl ?_
  refine ml_iconst (v := 1) dL_law_988 (by decide) ?_
  refine ml_iadd dL_law_989 ?_
  refine ml_sld (li_in (j := 1) hL hi (by decide)) dL_law_990 ?_
  refine ml_callX (dc := 3) (k := 1) (v := .int q) (T' := T) cv_L_109 wd_550 rfl wd_553 dL_law_991 [.int (xs (nI k + 1).toNatClampNeg)] [.int (xs (nI k + 1).toNatClampNeg), .ref 900] rfl rfl (fun f => rfl) (fun f => rfl) (fun f => rfl) (t_X5_slip h5) (fun _ _ _ _ h => h) (fun h => h) ⟨by decide, by decide⟩ (Nat.le_of_ble_eq_true rfl) ?_
  refine ml_aload_n dL_law_994 2 rfl ?_
  refine ml_aload_n dL_law_995 0 rfl ?_
  refine ml_iload_n dL_law_996 3 rfl ?_
  refine ml_iconst (v := 1) dL_law_997 (by decide) ?_
  refine ml_iadd dL_law_998 ?_
  refine ml_sld (li_in (j := 1) hL hi (by decide)) dL_law_999 ?_
  refine ml_callM (dc := 4) (k := 1) (v := .int r) cv_L_112 wd_1037 rfl wd_1040 dL_law_1000 [.int (xs (nI k + 1).toNatClampNeg)] [.int (xs (nI k + 1).toNatClampNeg), .ref 901, .int q] rfl rfl (fun f => rfl) (fun f => rfl) (fun f => rfl) (t_X6_slip h6) (fun _ _ _ _ h => h) ⟨by decide, by decide⟩ (Nat.le_of_ble_eq_true rfl) ?_
  refine ml_icmp_eq (tgt := 1806) dL_law_1003 (by decide) hv ?_
  exact kk _ _ _ _ hrel
def RS_wrong (Rel : Option Nat → mh_I → mh_L → mh_I → Prop) : Prop := ∀ (T : Option Nat) (I1 : mh_I) (L1 : mh_L) (I2 : mh_I), Rel T I1 L1 I2 → ∃ (q : Int32) (r : Int32), X5_wrong I1 L1 = some q ∧ X6_wrong I2 = some r ∧ q = r ∧ Rel T I1 L1 I2
set_option maxHeartbeats 4000000 in
set_option maxRecDepth 100000 in
theorem lc_wrong (Rel : Option Nat → mh_I → mh_L → mh_I → Prop) (hT : ∀ T I1 L1 I2, Rel T I1 L1 I2 → ∀ t, T = some t → t < 46) (hR : RS_wrong Rel) {L0 k : Nat} {xs : Nat → Int32} (hL : L0 ≤ 3584) (hi : k + 7 ≤ L0) {T : Option Nat} {I1 I2 : mh_I} {L1 L2 : mh_L} (hrel : Rel T I1 L1 I2) (kk : ∀ T1 J1 K1 J2, Rel T1 J1 K1 J2 → ml_W L0 xs T1 J1 K1 J2 L2 1806 [(0, .ref 1002), (1, .ref 900), (2, .ref 901), (3, .int (nI k))] []) : ml_W L0 xs T I1 L1 I2 L2 1008 [(0, .ref 1002), (1, .ref 900), (2, .ref 901), (3, .int (nI k))] [] := by
  obtain ⟨q, r, h5, h6, hv, hrel⟩ := hR T I1 L1 I2 hrel
  refine ml_aload_n dL_law_1008 1 rfl ?_
  refine ml_callX (dc := 3) (k := 0) (v := .int q) (T' := T) cv_L_113 wd_565 rfl wd_568 dL_law_1009 [] [.ref 900] rfl rfl (fun f => rfl) (fun f => rfl) (fun f => rfl) (t_X5_wrong h5) (fun _ _ _ _ h => h) (fun h => h) ⟨by decide, by decide⟩ (Nat.le_of_ble_eq_true rfl) ?_
  refine ml_aload_n dL_law_1012 2 rfl ?_
  refine ml_callM (dc := 4) (k := 0) (v := .int r) cv_L_116 wd_1045 rfl wd_1048 dL_law_1013 [] [.ref 901, .int q] rfl rfl (fun f => rfl) (fun f => rfl) (fun f => rfl) (t_X6_wrong h6) (fun _ _ _ _ h => h) ⟨by decide, by decide⟩ (Nat.le_of_ble_eq_true rfl) ?_
  refine ml_icmp_eq (tgt := 1806) dL_law_1016 (by decide) hv ?_
  exact kk _ _ _ _ hrel
def RS_pinned (Rel : Option Nat → mh_I → mh_L → mh_I → Prop) : Prop := ∀ (T : Option Nat) (I1 : mh_I) (L1 : mh_L) (I2 : mh_I) (a1 a2 a3 a4 : Int32), Rel T I1 L1 I2 → ∃ (q : Int32 × mh_I × mh_L) (r : Int32 × mh_I), X5_pinned a1 a2 a3 a4 I1 L1 = some q ∧ X6_pinned a1 a2 a3 a4 I2 = some r ∧ q.1 = r.1 ∧ Rel T q.2.1 q.2.2 r.2
set_option maxHeartbeats 4000000 in
set_option maxRecDepth 100000 in
theorem lc_pinned (Rel : Option Nat → mh_I → mh_L → mh_I → Prop) (hT : ∀ T I1 L1 I2, Rel T I1 L1 I2 → ∀ t, T = some t → t < 46) (hR : RS_pinned Rel) {L0 k : Nat} {xs : Nat → Int32} (hL : L0 ≤ 3584) (hi : k + 7 ≤ L0) {T : Option Nat} {I1 I2 : mh_I} {L1 L2 : mh_L} (hrel : Rel T I1 L1 I2) (kk : ∀ T1 J1 K1 J2, Rel T1 J1 K1 J2 → ml_W L0 xs T1 J1 K1 J2 L2 1806 [(0, .ref 1002), (1, .ref 900), (2, .ref 901), (3, .int (nI k))] []) : ml_W L0 xs T I1 L1 I2 L2 1021 [(0, .ref 1002), (1, .ref 900), (2, .ref 901), (3, .int (nI k))] [] := by
  obtain ⟨q, r, h5, h6, hv, hrel⟩ := hR T I1 L1 I2 (xs (nI k + 1).toNatClampNeg) (xs (nI k + 2).toNatClampNeg) (xs (nI k + 3).toNatClampNeg) (xs (nI k + 4).toNatClampNeg) hrel
  refine ml_aload_n dL_law_1021 1 rfl ?_
  refine ml_aload_n dL_law_1022 0 rfl ?_
  refine ml_iload_n dL_law_1023 3 rfl ?_
  refine ml_iconst (v := 1) dL_law_1024 (by decide) ?_
  refine ml_iadd dL_law_1025 ?_
  refine ml_sld (li_in (j := 1) hL hi (by decide)) dL_law_1026 ?_
  refine ml_aload_n dL_law_1027 0 rfl ?_
  refine ml_iload_n dL_law_1028 3 rfl ?_
  refine ml_iconst (v := 2) dL_law_1029 (by decide) ?_
  refine ml_iadd dL_law_1030 ?_
  refine ml_sld (li_in (j := 2) hL hi (by decide)) dL_law_1031 ?_
  refine ml_aload_n dL_law_1032 0 rfl ?_
  refine ml_iload_n dL_law_1033 3 rfl ?_
  refine ml_iconst (v := 3) dL_law_1034 (by decide) ?_
  refine ml_iadd dL_law_1035 ?_
  refine ml_sld (li_in (j := 3) hL hi (by decide)) dL_law_1036 ?_
  refine ml_aload_n dL_law_1037 0 rfl ?_
  refine ml_iload_n dL_law_1038 3 rfl ?_
  refine ml_iconst (v := 4) dL_law_1039 (by decide) ?_
  refine ml_iadd dL_law_1040 ?_
  refine ml_sld (li_in (j := 4) hL hi (by decide)) dL_law_1041 ?_
  refine ml_callX (dc := 6) (k := 4) (v := .int q.1) (T' := T) cv_L_117 wd_570 rfl wd_573 dL_law_1042 [.int (xs (nI k + 1).toNatClampNeg), .int (xs (nI k + 2).toNatClampNeg), .int (xs (nI k + 3).toNatClampNeg), .int (xs (nI k + 4).toNatClampNeg)] [.int (xs (nI k + 4).toNatClampNeg), .int (xs (nI k + 3).toNatClampNeg), .int (xs (nI k + 2).toNatClampNeg), .int (xs (nI k + 1).toNatClampNeg), .ref 900] rfl rfl (fun f => rfl) (fun f => rfl) (fun f => rfl) (t_X5_pinned h5) (fun _ _ _ _ h => h) (fun h => h) ⟨by decide, by decide⟩ (Nat.le_of_ble_eq_true rfl) ?_
  refine ml_aload_n dL_law_1045 2 rfl ?_
  refine ml_aload_n dL_law_1046 0 rfl ?_
  refine ml_iload_n dL_law_1047 3 rfl ?_
  refine ml_iconst (v := 1) dL_law_1048 (by decide) ?_
  refine ml_iadd dL_law_1049 ?_
  refine ml_sld (li_in (j := 1) hL hi (by decide)) dL_law_1050 ?_
  refine ml_aload_n dL_law_1051 0 rfl ?_
  refine ml_iload_n dL_law_1052 3 rfl ?_
  refine ml_iconst (v := 2) dL_law_1053 (by decide) ?_
  refine ml_iadd dL_law_1054 ?_
  refine ml_sld (li_in (j := 2) hL hi (by decide)) dL_law_1055 ?_
  refine ml_aload_n dL_law_1056 0 rfl ?_
  refine ml_iload_n dL_law_1057 3 rfl ?_
  refine ml_iconst (v := 3) dL_law_1058 (by decide) ?_
  refine ml_iadd dL_law_1059 ?_
  refine ml_sld (li_in (j := 3) hL hi (by decide)) dL_law_1060 ?_
  refine ml_aload_n dL_law_1061 0 rfl ?_
  refine ml_iload_n dL_law_1062 3 rfl ?_
  refine ml_iconst (v := 4) dL_law_1063 (by decide) ?_
  refine ml_iadd dL_law_1064 ?_
  refine ml_sld (li_in (j := 4) hL hi (by decide)) dL_law_1065 ?_
  refine ml_callM (dc := 9) (k := 4) (v := .int r.1) cv_L_121 wd_1049 rfl wd_1052 dL_law_1066 [.int (xs (nI k + 1).toNatClampNeg), .int (xs (nI k + 2).toNatClampNeg), .int (xs (nI k + 3).toNatClampNeg), .int (xs (nI k + 4).toNatClampNeg)] [.int (xs (nI k + 4).toNatClampNeg), .int (xs (nI k + 3).toNatClampNeg), .int (xs (nI k + 2).toNatClampNeg), .int (xs (nI k + 1).toNatClampNeg), .ref 901, .int q.1] rfl rfl (fun f => rfl) (fun f => rfl) (fun f => rfl) (t_X6_pinned h6) (fun _ _ _ _ h => h) ⟨by decide, by decide⟩ (Nat.le_of_ble_eq_true rfl) ?_
  refine ml_icmp_eq (tgt := 1806) dL_law_1069 (by decide) hv ?_
  exact kk _ _ _ _ hrel
def RS_mending (Rel : Option Nat → mh_I → mh_L → mh_I → Prop) : Prop := ∀ (T : Option Nat) (I1 : mh_I) (L1 : mh_L) (I2 : mh_I) (a1 a2 a3 : Int32), Rel T I1 L1 I2 → ∃ (q : Int32 × mh_I × mh_L) (r : Int32 × mh_I), X5_mending a1 a2 a3 I1 L1 = some q ∧ X6_mending a1 a2 a3 I2 = some r ∧ q.1 = r.1 ∧ Rel T q.2.1 q.2.2 r.2
set_option maxHeartbeats 4000000 in
set_option maxRecDepth 100000 in
theorem lc_mending (Rel : Option Nat → mh_I → mh_L → mh_I → Prop) (hT : ∀ T I1 L1 I2, Rel T I1 L1 I2 → ∀ t, T = some t → t < 46) (hR : RS_mending Rel) {L0 k : Nat} {xs : Nat → Int32} (hL : L0 ≤ 3584) (hi : k + 7 ≤ L0) {T : Option Nat} {I1 I2 : mh_I} {L1 L2 : mh_L} (hrel : Rel T I1 L1 I2) (kk : ∀ T1 J1 K1 J2, Rel T1 J1 K1 J2 → ml_W L0 xs T1 J1 K1 J2 L2 1806 [(0, .ref 1002), (1, .ref 900), (2, .ref 901), (3, .int (nI k))] []) : ml_W L0 xs T I1 L1 I2 L2 1074 [(0, .ref 1002), (1, .ref 900), (2, .ref 901), (3, .int (nI k))] [] := by
  obtain ⟨q, r, h5, h6, hv, hrel⟩ := hR T I1 L1 I2 (xs (nI k + 1).toNatClampNeg) (xs (nI k + 2).toNatClampNeg) (xs (nI k + 3).toNatClampNeg) hrel
  refine ml_aload_n dL_law_1074 1 rfl ?_
  refine ml_aload_n dL_law_1075 0 rfl ?_
  refine ml_iload_n dL_law_1076 3 rfl ?_
  refine ml_iconst (v := 1) dL_law_1077 (by decide) ?_
  refine ml_iadd dL_law_1078 ?_
  refine ml_sld (li_in (j := 1) hL hi (by decide)) dL_law_1079 ?_
  refine ml_aload_n dL_law_1080 0 rfl ?_
  refine ml_iload_n dL_law_1081 3 rfl ?_
  refine ml_iconst (v := 2) dL_law_1082 (by decide) ?_
  refine ml_iadd dL_law_1083 ?_
  refine ml_sld (li_in (j := 2) hL hi (by decide)) dL_law_1084 ?_
  refine ml_aload_n dL_law_1085 0 rfl ?_
  refine ml_iload_n dL_law_1086 3 rfl ?_
  refine ml_iconst (v := 3) dL_law_1087 (by decide) ?_
  refine ml_iadd dL_law_1088 ?_
  refine ml_sld (li_in (j := 3) hL hi (by decide)) dL_law_1089 ?_
  refine ml_callX (dc := 6) (k := 3) (v := .int q.1) (T' := T) cv_L_122 wd_578 rfl wd_581 dL_law_1090 [.int (xs (nI k + 1).toNatClampNeg), .int (xs (nI k + 2).toNatClampNeg), .int (xs (nI k + 3).toNatClampNeg)] [.int (xs (nI k + 3).toNatClampNeg), .int (xs (nI k + 2).toNatClampNeg), .int (xs (nI k + 1).toNatClampNeg), .ref 900] rfl rfl (fun f => rfl) (fun f => rfl) (fun f => rfl) (t_X5_mending h5) (fun _ _ _ _ h => h) (fun h => h) ⟨by decide, by decide⟩ (Nat.le_of_ble_eq_true rfl) ?_
  refine ml_aload_n dL_law_1093 2 rfl ?_
  refine ml_aload_n dL_law_1094 0 rfl ?_
  refine ml_iload_n dL_law_1095 3 rfl ?_
  refine ml_iconst (v := 1) dL_law_1096 (by decide) ?_
  refine ml_iadd dL_law_1097 ?_
  refine ml_sld (li_in (j := 1) hL hi (by decide)) dL_law_1098 ?_
  refine ml_aload_n dL_law_1099 0 rfl ?_
  refine ml_iload_n dL_law_1100 3 rfl ?_
  refine ml_iconst (v := 2) dL_law_1101 (by decide) ?_
  refine ml_iadd dL_law_1102 ?_
  refine ml_sld (li_in (j := 2) hL hi (by decide)) dL_law_1103 ?_
  refine ml_aload_n dL_law_1104 0 rfl ?_
  refine ml_iload_n dL_law_1105 3 rfl ?_
  refine ml_iconst (v := 3) dL_law_1106 (by decide) ?_
  refine ml_iadd dL_law_1107 ?_
  refine ml_sld (li_in (j := 3) hL hi (by decide)) dL_law_1108 ?_
  refine ml_callM (dc := 7) (k := 3) (v := .int r.1) cv_L_125 wd_1061 rfl wd_1064 dL_law_1109 [.int (xs (nI k + 1).toNatClampNeg), .int (xs (nI k + 2).toNatClampNeg), .int (xs (nI k + 3).toNatClampNeg)] [.int (xs (nI k + 3).toNatClampNeg), .int (xs (nI k + 2).toNatClampNeg), .int (xs (nI k + 1).toNatClampNeg), .ref 901, .int q.1] rfl rfl (fun f => rfl) (fun f => rfl) (fun f => rfl) (t_X6_mending h6) (fun _ _ _ _ h => h) ⟨by decide, by decide⟩ (Nat.le_of_ble_eq_true rfl) ?_
  refine ml_icmp_eq (tgt := 1806) dL_law_1112 (by decide) hv ?_
  exact kk _ _ _ _ hrel
def RS_mend (Rel : Option Nat → mh_I → mh_L → mh_I → Prop) : Prop := ∀ (T : Option Nat) (I1 : mh_I) (L1 : mh_L) (I2 : mh_I) (a1 a2 : Int32), Rel T I1 L1 I2 → ∃ (q : Int32 × mh_I × mh_L) (r : Int32 × mh_I), X5_mend a1 a2 I1 L1 = some q ∧ X6_mend a1 a2 I2 = some r ∧ q.1 = r.1 ∧ Rel T q.2.1 q.2.2 r.2
set_option maxHeartbeats 4000000 in
set_option maxRecDepth 100000 in
theorem lc_mend (Rel : Option Nat → mh_I → mh_L → mh_I → Prop) (hT : ∀ T I1 L1 I2, Rel T I1 L1 I2 → ∀ t, T = some t → t < 46) (hR : RS_mend Rel) {L0 k : Nat} {xs : Nat → Int32} (hL : L0 ≤ 3584) (hi : k + 7 ≤ L0) {T : Option Nat} {I1 I2 : mh_I} {L1 L2 : mh_L} (hrel : Rel T I1 L1 I2) (kk : ∀ T1 J1 K1 J2, Rel T1 J1 K1 J2 → ml_W L0 xs T1 J1 K1 J2 L2 1806 [(0, .ref 1002), (1, .ref 900), (2, .ref 901), (3, .int (nI k))] []) : ml_W L0 xs T I1 L1 I2 L2 1117 [(0, .ref 1002), (1, .ref 900), (2, .ref 901), (3, .int (nI k))] [] := by
  obtain ⟨q, r, h5, h6, hv, hrel⟩ := hR T I1 L1 I2 (xs (nI k + 1).toNatClampNeg) (xs (nI k + 2).toNatClampNeg) hrel
  refine ml_aload_n dL_law_1117 1 rfl ?_
  refine ml_aload_n dL_law_1118 0 rfl ?_
  refine ml_iload_n dL_law_1119 3 rfl ?_
  refine ml_iconst (v := 1) dL_law_1120 (by decide) ?_
  refine ml_iadd dL_law_1121 ?_
  refine ml_sld (li_in (j := 1) hL hi (by decide)) dL_law_1122 ?_
  refine ml_aload_n dL_law_1123 0 rfl ?_
  refine ml_iload_n dL_law_1124 3 rfl ?_
  refine ml_iconst (v := 2) dL_law_1125 (by decide) ?_
  refine ml_iadd dL_law_1126 ?_
  refine ml_sld (li_in (j := 2) hL hi (by decide)) dL_law_1127 ?_
  refine ml_callX (dc := 6) (k := 2) (v := .int q.1) (T' := T) cv_L_126 wd_582 rfl wd_585 dL_law_1128 [.int (xs (nI k + 1).toNatClampNeg), .int (xs (nI k + 2).toNatClampNeg)] [.int (xs (nI k + 2).toNatClampNeg), .int (xs (nI k + 1).toNatClampNeg), .ref 900] rfl rfl (fun f => rfl) (fun f => rfl) (fun f => rfl) (t_X5_mend h5) (fun _ _ _ _ h => h) (fun h => h) ⟨by decide, by decide⟩ (Nat.le_of_ble_eq_true rfl) ?_
  refine ml_aload_n dL_law_1131 2 rfl ?_
  refine ml_aload_n dL_law_1132 0 rfl ?_
  refine ml_iload_n dL_law_1133 3 rfl ?_
  refine ml_iconst (v := 1) dL_law_1134 (by decide) ?_
  refine ml_iadd dL_law_1135 ?_
  refine ml_sld (li_in (j := 1) hL hi (by decide)) dL_law_1136 ?_
  refine ml_aload_n dL_law_1137 0 rfl ?_
  refine ml_iload_n dL_law_1138 3 rfl ?_
  refine ml_iconst (v := 2) dL_law_1139 (by decide) ?_
  refine ml_iadd dL_law_1140 ?_
  refine ml_sld (li_in (j := 2) hL hi (by decide)) dL_law_1141 ?_
  refine ml_callM (dc := 7) (k := 2) (v := .int r.1) cv_L_129 wd_1065 rfl wd_1068 dL_law_1142 [.int (xs (nI k + 1).toNatClampNeg), .int (xs (nI k + 2).toNatClampNeg)] [.int (xs (nI k + 2).toNatClampNeg), .int (xs (nI k + 1).toNatClampNeg), .ref 901, .int q.1] rfl rfl (fun f => rfl) (fun f => rfl) (fun f => rfl) (t_X6_mend h6) (fun _ _ _ _ h => h) ⟨by decide, by decide⟩ (Nat.le_of_ble_eq_true rfl) ?_
  refine ml_icmp_eq (tgt := 1806) dL_law_1145 (by decide) hv ?_
  exact kk _ _ _ _ hrel
def RS_block (Rel : Option Nat → mh_I → mh_L → mh_I → Prop) : Prop := ∀ (T : Option Nat) (I1 : mh_I) (L1 : mh_L) (I2 : mh_I), Rel T I1 L1 I2 → ∃ (q : Int32 × mh_L) (r : Int32 × mh_I), X5_block L1 = some q ∧ X6_block I2 = some r ∧ q.1 = r.1 ∧ Rel T I1 q.2 r.2
set_option maxHeartbeats 4000000 in
set_option maxRecDepth 100000 in
theorem lc_block (Rel : Option Nat → mh_I → mh_L → mh_I → Prop) (hT : ∀ T I1 L1 I2, Rel T I1 L1 I2 → ∀ t, T = some t → t < 46) (hR : RS_block Rel) {L0 k : Nat} {xs : Nat → Int32} (hL : L0 ≤ 3584) (hi : k + 7 ≤ L0) {T : Option Nat} {I1 I2 : mh_I} {L1 L2 : mh_L} (hrel : Rel T I1 L1 I2) (kk : ∀ T1 J1 K1 J2, Rel T1 J1 K1 J2 → ml_W L0 xs T1 J1 K1 J2 L2 1806 [(0, .ref 1002), (1, .ref 900), (2, .ref 901), (3, .int (nI k))] []) : ml_W L0 xs T I1 L1 I2 L2 1150 [(0, .ref 1002), (1, .ref 900), (2, .ref 901), (3, .int (nI k))] [] := by
  obtain ⟨q, r, h5, h6, hv, hrel⟩ := hR T I1 L1 I2 hrel
  refine ml_aload_n dL_law_1150 1 rfl ?_
  refine ml_callX (dc := 1) (k := 0) (v := .int q.1) (T' := T) cv_L_130 wd_586 rfl wd_589 dL_law_1151 [] [.ref 900] rfl rfl (fun f => rfl) (fun f => rfl) (fun f => rfl) (t_X5_block h5) (fun _ _ _ _ h => h) (fun h => h) ⟨by decide, by decide⟩ (Nat.le_of_ble_eq_true rfl) ?_
  refine ml_aload_n dL_law_1154 2 rfl ?_
  refine ml_callM (dc := 1) (k := 0) (v := .int r.1) cv_L_133 wd_1069 rfl wd_1072 dL_law_1155 [] [.ref 901, .int q.1] rfl rfl (fun f => rfl) (fun f => rfl) (fun f => rfl) (t_X6_block h6) (fun _ _ _ _ h => h) ⟨by decide, by decide⟩ (Nat.le_of_ble_eq_true rfl) ?_
  refine ml_icmp_eq (tgt := 1806) dL_law_1158 (by decide) hv ?_
  exact kk _ _ _ _ hrel
def RS_seen (Rel : Option Nat → mh_I → mh_L → mh_I → Prop) : Prop := ∀ (T : Option Nat) (I1 : mh_I) (L1 : mh_L) (I2 : mh_I), Rel T I1 L1 I2 → ∃ (q : Int64) (r : Int64), X5_seen I1 L1 = some q ∧ X6_seen I2 = some r ∧ q = r ∧ Rel T I1 L1 I2
set_option maxHeartbeats 4000000 in
set_option maxRecDepth 100000 in
theorem lc_seen (Rel : Option Nat → mh_I → mh_L → mh_I → Prop) (hT : ∀ T I1 L1 I2, Rel T I1 L1 I2 → ∀ t, T = some t → t < 46) (hR : RS_seen Rel) {L0 k : Nat} {xs : Nat → Int32} (hL : L0 ≤ 3584) (hi : k + 7 ≤ L0) {T : Option Nat} {I1 I2 : mh_I} {L1 L2 : mh_L} (hrel : Rel T I1 L1 I2) (kk : ∀ T1 J1 K1 J2, Rel T1 J1 K1 J2 → ml_W L0 xs T1 J1 K1 J2 L2 1806 [(0, .ref 1002), (1, .ref 900), (2, .ref 901), (3, .int (nI k))] []) : ml_W L0 xs T I1 L1 I2 L2 1163 [(0, .ref 1002), (1, .ref 900), (2, .ref 901), (3, .int (nI k))] [] := by
  obtain ⟨q, r, h5, h6, hv, hrel⟩ := hR T I1 L1 I2 hrel
  refine ml_aload_n dL_law_1163 1 rfl ?_
  refine ml_callX (dc := 2) (k := 0) (v := .long q) (T' := T) cv_L_134 wd_590 rfl wd_593 dL_law_1164 [] [.ref 900] rfl rfl (fun f => rfl) (fun f => rfl) (fun f => rfl) (t_X5_seen h5) (fun _ _ _ _ h => h) (fun h => h) ⟨by decide, by decide⟩ (Nat.le_of_ble_eq_true rfl) ?_
  refine ml_aload_n dL_law_1167 2 rfl ?_
  refine ml_callM (dc := 1) (k := 0) (v := .long r) cv_L_137 wd_1073 rfl wd_1076 dL_law_1168 [] [.ref 901, .long q] rfl rfl (fun f => rfl) (fun f => rfl) (fun f => rfl) (t_X6_seen h6) (fun _ _ _ _ h => h) ⟨by decide, by decide⟩ (Nat.le_of_ble_eq_true rfl) ?_
  refine ml_lcmp dL_law_1171 ?_
  refine ml_if_eq (tgt := 1806) dL_law_1172 (by decide) (lg_cmp_eq0 hv) ?_
  exact kk _ _ _ _ hrel
def RS_slack (Rel : Option Nat → mh_I → mh_L → mh_I → Prop) : Prop := ∀ (T : Option Nat) (I1 : mh_I) (L1 : mh_L) (I2 : mh_I) (a1 a2 : Int32), Rel T I1 L1 I2 → ∃ (q : Int32) (r : Int32), X5_slack a1 a2 I1 = some q ∧ X6_slack a1 a2 I2 = some r ∧ q = r ∧ Rel T I1 L1 I2
set_option maxHeartbeats 4000000 in
set_option maxRecDepth 100000 in
theorem lc_slack (Rel : Option Nat → mh_I → mh_L → mh_I → Prop) (hT : ∀ T I1 L1 I2, Rel T I1 L1 I2 → ∀ t, T = some t → t < 46) (hR : RS_slack Rel) {L0 k : Nat} {xs : Nat → Int32} (hL : L0 ≤ 3584) (hi : k + 7 ≤ L0) {T : Option Nat} {I1 I2 : mh_I} {L1 L2 : mh_L} (hrel : Rel T I1 L1 I2) (kk : ∀ T1 J1 K1 J2, Rel T1 J1 K1 J2 → ml_W L0 xs T1 J1 K1 J2 L2 1806 [(0, .ref 1002), (1, .ref 900), (2, .ref 901), (3, .int (nI k))] []) : ml_W L0 xs T I1 L1 I2 L2 1177 [(0, .ref 1002), (1, .ref 900), (2, .ref 901), (3, .int (nI k))] [] := by
  obtain ⟨q, r, h5, h6, hv, hrel⟩ := hR T I1 L1 I2 (xs (nI k + 1).toNatClampNeg) (xs (nI k + 2).toNatClampNeg) hrel
  refine ml_aload_n dL_law_1177 1 rfl ?_
  refine ml_aload_n dL_law_1178 0 rfl ?_
  refine ml_iload_n dL_law_1179 3 rfl ?_
  refine ml_iconst (v := 1) dL_law_1180 (by decide) ?_
  refine ml_iadd dL_law_1181 ?_
  refine ml_sld (li_in (j := 1) hL hi (by decide)) dL_law_1182 ?_
  refine ml_aload_n dL_law_1183 0 rfl ?_
  refine ml_iload_n dL_law_1184 3 rfl ?_
  refine ml_iconst (v := 2) dL_law_1185 (by decide) ?_
  refine ml_iadd dL_law_1186 ?_
  refine ml_sld (li_in (j := 2) hL hi (by decide)) dL_law_1187 ?_
  refine ml_callX (dc := 2) (k := 2) (v := .int q) (T' := T) cv_L_138 wd_598 rfl wd_601 dL_law_1188 [.int (xs (nI k + 1).toNatClampNeg), .int (xs (nI k + 2).toNatClampNeg)] [.int (xs (nI k + 2).toNatClampNeg), .int (xs (nI k + 1).toNatClampNeg), .ref 900] rfl rfl (fun f => rfl) (fun f => rfl) (fun f => rfl) (t_X5_slack h5) (fun _ _ _ _ h => h) (fun h => h) ⟨by decide, by decide⟩ (Nat.le_of_ble_eq_true rfl) ?_
  refine ml_aload_n dL_law_1191 2 rfl ?_
  refine ml_aload_n dL_law_1192 0 rfl ?_
  refine ml_iload_n dL_law_1193 3 rfl ?_
  refine ml_iconst (v := 1) dL_law_1194 (by decide) ?_
  refine ml_iadd dL_law_1195 ?_
  refine ml_sld (li_in (j := 1) hL hi (by decide)) dL_law_1196 ?_
  refine ml_aload_n dL_law_1197 0 rfl ?_
  refine ml_iload_n dL_law_1198 3 rfl ?_
  refine ml_iconst (v := 2) dL_law_1199 (by decide) ?_
  refine ml_iadd dL_law_1200 ?_
  refine ml_sld (li_in (j := 2) hL hi (by decide)) dL_law_1201 ?_
  refine ml_callM (dc := 2) (k := 2) (v := .int r) cv_L_141 wd_1077 rfl wd_1080 dL_law_1202 [.int (xs (nI k + 1).toNatClampNeg), .int (xs (nI k + 2).toNatClampNeg)] [.int (xs (nI k + 2).toNatClampNeg), .int (xs (nI k + 1).toNatClampNeg), .ref 901, .int q] rfl rfl (fun f => rfl) (fun f => rfl) (fun f => rfl) (t_X6_slack h6) (fun _ _ _ _ h => h) ⟨by decide, by decide⟩ (Nat.le_of_ble_eq_true rfl) ?_
  refine ml_icmp_eq (tgt := 1806) dL_law_1205 (by decide) hv ?_
  exact kk _ _ _ _ hrel
def RS_judge (Rel : Option Nat → mh_I → mh_L → mh_I → Prop) : Prop := ∀ (T : Option Nat) (I1 : mh_I) (L1 : mh_L) (I2 : mh_I) (a1 a2 a3 : Int32), Rel T I1 L1 I2 → ∃ (q : Int32 × mh_I × mh_L) (r : Int32 × mh_I), X5_judge a1 a2 a3 I1 L1 = some q ∧ X6_judge a1 a2 a3 I2 = some r ∧ q.1 = r.1 ∧ Rel T q.2.1 q.2.2 r.2
set_option maxHeartbeats 4000000 in
set_option maxRecDepth 100000 in
theorem lc_judge (Rel : Option Nat → mh_I → mh_L → mh_I → Prop) (hT : ∀ T I1 L1 I2, Rel T I1 L1 I2 → ∀ t, T = some t → t < 46) (hR : RS_judge Rel) {L0 k : Nat} {xs : Nat → Int32} (hL : L0 ≤ 3584) (hi : k + 7 ≤ L0) {T : Option Nat} {I1 I2 : mh_I} {L1 L2 : mh_L} (hrel : Rel T I1 L1 I2) (kk : ∀ T1 J1 K1 J2, Rel T1 J1 K1 J2 → ml_W L0 xs T1 J1 K1 J2 L2 1806 [(0, .ref 1002), (1, .ref 900), (2, .ref 901), (3, .int (nI k))] []) : ml_W L0 xs T I1 L1 I2 L2 1210 [(0, .ref 1002), (1, .ref 900), (2, .ref 901), (3, .int (nI k))] [] := by
  obtain ⟨q, r, h5, h6, hv, hrel⟩ := hR T I1 L1 I2 (xs (nI k + 1).toNatClampNeg) (xs (nI k + 2).toNatClampNeg) (xs (nI k + 3).toNatClampNeg) hrel
  refine ml_aload_n dL_law_1210 1 rfl ?_
  refine ml_aload_n dL_law_1211 0 rfl ?_
  refine ml_iload_n dL_law_1212 3 rfl ?_
  refine ml_iconst (v := 1) dL_law_1213 (by decide) ?_
  refine ml_iadd dL_law_1214 ?_
  refine ml_sld (li_in (j := 1) hL hi (by decide)) dL_law_1215 ?_
  refine ml_aload_n dL_law_1216 0 rfl ?_
  refine ml_iload_n dL_law_1217 3 rfl ?_
  refine ml_iconst (v := 2) dL_law_1218 (by decide) ?_
  refine ml_iadd dL_law_1219 ?_
  refine ml_sld (li_in (j := 2) hL hi (by decide)) dL_law_1220 ?_
  refine ml_aload_n dL_law_1221 0 rfl ?_
  refine ml_iload_n dL_law_1222 3 rfl ?_
  refine ml_iconst (v := 3) dL_law_1223 (by decide) ?_
  refine ml_iadd dL_law_1224 ?_
  refine ml_sld (li_in (j := 3) hL hi (by decide)) dL_law_1225 ?_
  refine ml_callX (dc := 6) (k := 3) (v := .int q.1) (T' := T) cv_L_142 wd_602 rfl wd_605 dL_law_1226 [.int (xs (nI k + 1).toNatClampNeg), .int (xs (nI k + 2).toNatClampNeg), .int (xs (nI k + 3).toNatClampNeg)] [.int (xs (nI k + 3).toNatClampNeg), .int (xs (nI k + 2).toNatClampNeg), .int (xs (nI k + 1).toNatClampNeg), .ref 900] rfl rfl (fun f => rfl) (fun f => rfl) (fun f => rfl) (t_X5_judge h5) (fun _ _ _ _ h => h) (fun h => h) ⟨by decide, by decide⟩ (Nat.le_of_ble_eq_true rfl) ?_
  refine ml_aload_n dL_law_1229 2 rfl ?_
  refine ml_aload_n dL_law_1230 0 rfl ?_
  refine ml_iload_n dL_law_1231 3 rfl ?_
  refine ml_iconst (v := 1) dL_law_1232 (by decide) ?_
  refine ml_iadd dL_law_1233 ?_
  refine ml_sld (li_in (j := 1) hL hi (by decide)) dL_law_1234 ?_
  refine ml_aload_n dL_law_1235 0 rfl ?_
  refine ml_iload_n dL_law_1236 3 rfl ?_
  refine ml_iconst (v := 2) dL_law_1237 (by decide) ?_
  refine ml_iadd dL_law_1238 ?_
  refine ml_sld (li_in (j := 2) hL hi (by decide)) dL_law_1239 ?_
  refine ml_aload_n dL_law_1240 0 rfl ?_
  refine ml_iload_n dL_law_1241 3 rfl ?_
  refine ml_iconst (v := 3) dL_law_1242 (by decide) ?_
  refine ml_iadd dL_law_1243 ?_
  refine ml_sld (li_in (j := 3) hL hi (by decide)) dL_law_1244 ?_
  refine ml_callM (dc := 7) (k := 3) (v := .int r.1) cv_L_145 wd_1081 rfl wd_1084 dL_law_1245 [.int (xs (nI k + 1).toNatClampNeg), .int (xs (nI k + 2).toNatClampNeg), .int (xs (nI k + 3).toNatClampNeg)] [.int (xs (nI k + 3).toNatClampNeg), .int (xs (nI k + 2).toNatClampNeg), .int (xs (nI k + 1).toNatClampNeg), .ref 901, .int q.1] rfl rfl (fun f => rfl) (fun f => rfl) (fun f => rfl) (t_X6_judge h6) (fun _ _ _ _ h => h) ⟨by decide, by decide⟩ (Nat.le_of_ble_eq_true rfl) ?_
  refine ml_icmp_eq (tgt := 1806) dL_law_1248 (by decide) hv ?_
  exact kk _ _ _ _ hrel
def RS_which (Rel : Option Nat → mh_I → mh_L → mh_I → Prop) : Prop := ∀ (T : Option Nat) (I1 : mh_I) (L1 : mh_L) (I2 : mh_I) (a1 a2 : Int32), Rel T I1 L1 I2 → ∃ (q : Int64 × mh_I × mh_L) (r : Int64 × mh_I), X5_which a1 a2 I1 L1 = some q ∧ X6_which a1 a2 I2 = some r ∧ q.1 = r.1 ∧ Rel T q.2.1 q.2.2 r.2
set_option maxHeartbeats 4000000 in
set_option maxRecDepth 100000 in
theorem lc_which (Rel : Option Nat → mh_I → mh_L → mh_I → Prop) (hT : ∀ T I1 L1 I2, Rel T I1 L1 I2 → ∀ t, T = some t → t < 46) (hR : RS_which Rel) {L0 k : Nat} {xs : Nat → Int32} (hL : L0 ≤ 3584) (hi : k + 7 ≤ L0) {T : Option Nat} {I1 I2 : mh_I} {L1 L2 : mh_L} (hrel : Rel T I1 L1 I2) (kk : ∀ T1 J1 K1 J2, Rel T1 J1 K1 J2 → ml_W L0 xs T1 J1 K1 J2 L2 1806 [(0, .ref 1002), (1, .ref 900), (2, .ref 901), (3, .int (nI k))] []) : ml_W L0 xs T I1 L1 I2 L2 1253 [(0, .ref 1002), (1, .ref 900), (2, .ref 901), (3, .int (nI k))] [] := by
  obtain ⟨q, r, h5, h6, hv, hrel⟩ := hR T I1 L1 I2 (xs (nI k + 1).toNatClampNeg) (xs (nI k + 2).toNatClampNeg) hrel
  refine ml_aload_n dL_law_1253 1 rfl ?_
  refine ml_aload_n dL_law_1254 0 rfl ?_
  refine ml_iload_n dL_law_1255 3 rfl ?_
  refine ml_iconst (v := 1) dL_law_1256 (by decide) ?_
  refine ml_iadd dL_law_1257 ?_
  refine ml_sld (li_in (j := 1) hL hi (by decide)) dL_law_1258 ?_
  refine ml_aload_n dL_law_1259 0 rfl ?_
  refine ml_iload_n dL_law_1260 3 rfl ?_
  refine ml_iconst (v := 2) dL_law_1261 (by decide) ?_
  refine ml_iadd dL_law_1262 ?_
  refine ml_sld (li_in (j := 2) hL hi (by decide)) dL_law_1263 ?_
  refine ml_callX (dc := 6) (k := 2) (v := .long q.1) (T' := T) cv_L_146 wd_615 rfl wd_618 dL_law_1264 [.int (xs (nI k + 1).toNatClampNeg), .int (xs (nI k + 2).toNatClampNeg)] [.int (xs (nI k + 2).toNatClampNeg), .int (xs (nI k + 1).toNatClampNeg), .ref 900] rfl rfl (fun f => rfl) (fun f => rfl) (fun f => rfl) (t_X5_which h5) (fun _ _ _ _ h => h) (fun h => h) ⟨by decide, by decide⟩ (Nat.le_of_ble_eq_true rfl) ?_
  refine ml_aload_n dL_law_1267 2 rfl ?_
  refine ml_aload_n dL_law_1268 0 rfl ?_
  refine ml_iload_n dL_law_1269 3 rfl ?_
  refine ml_iconst (v := 1) dL_law_1270 (by decide) ?_
  refine ml_iadd dL_law_1271 ?_
  refine ml_sld (li_in (j := 1) hL hi (by decide)) dL_law_1272 ?_
  refine ml_aload_n dL_law_1273 0 rfl ?_
  refine ml_iload_n dL_law_1274 3 rfl ?_
  refine ml_iconst (v := 2) dL_law_1275 (by decide) ?_
  refine ml_iadd dL_law_1276 ?_
  refine ml_sld (li_in (j := 2) hL hi (by decide)) dL_law_1277 ?_
  refine ml_callM (dc := 7) (k := 2) (v := .long r.1) cv_L_149 wd_1093 rfl wd_1096 dL_law_1278 [.int (xs (nI k + 1).toNatClampNeg), .int (xs (nI k + 2).toNatClampNeg)] [.int (xs (nI k + 2).toNatClampNeg), .int (xs (nI k + 1).toNatClampNeg), .ref 901, .long q.1] rfl rfl (fun f => rfl) (fun f => rfl) (fun f => rfl) (t_X6_which h6) (fun _ _ _ _ h => h) ⟨by decide, by decide⟩ (Nat.le_of_ble_eq_true rfl) ?_
  refine ml_lcmp dL_law_1281 ?_
  refine ml_if_eq (tgt := 1806) dL_law_1282 (by decide) (lg_cmp_eq0 hv) ?_
  exact kk _ _ _ _ hrel
def RS_span (Rel : Option Nat → mh_I → mh_L → mh_I → Prop) : Prop := ∀ (T : Option Nat) (I1 : mh_I) (L1 : mh_L) (I2 : mh_I) (a1 a2 a3 : Int32), Rel T I1 L1 I2 → ∃ (q : Int32 × mh_I × mh_L) (r : Int32 × mh_I), X5_span a1 a2 a3 I1 L1 = some q ∧ X6_span a1 a2 a3 I2 = some r ∧ q.1 = r.1 ∧ Rel T q.2.1 q.2.2 r.2
set_option maxHeartbeats 4000000 in
set_option maxRecDepth 100000 in
theorem lc_span (Rel : Option Nat → mh_I → mh_L → mh_I → Prop) (hT : ∀ T I1 L1 I2, Rel T I1 L1 I2 → ∀ t, T = some t → t < 46) (hR : RS_span Rel) {L0 k : Nat} {xs : Nat → Int32} (hL : L0 ≤ 3584) (hi : k + 7 ≤ L0) {T : Option Nat} {I1 I2 : mh_I} {L1 L2 : mh_L} (hrel : Rel T I1 L1 I2) (kk : ∀ T1 J1 K1 J2, Rel T1 J1 K1 J2 → ml_W L0 xs T1 J1 K1 J2 L2 1806 [(0, .ref 1002), (1, .ref 900), (2, .ref 901), (3, .int (nI k))] []) : ml_W L0 xs T I1 L1 I2 L2 1287 [(0, .ref 1002), (1, .ref 900), (2, .ref 901), (3, .int (nI k))] [] := by
  obtain ⟨q, r, h5, h6, hv, hrel⟩ := hR T I1 L1 I2 (xs (nI k + 1).toNatClampNeg) (xs (nI k + 2).toNatClampNeg) (xs (nI k + 3).toNatClampNeg) hrel
  refine ml_aload_n dL_law_1287 1 rfl ?_
  refine ml_aload_n dL_law_1288 0 rfl ?_
  refine ml_iload_n dL_law_1289 3 rfl ?_
  refine ml_iconst (v := 1) dL_law_1290 (by decide) ?_
  refine ml_iadd dL_law_1291 ?_
  refine ml_sld (li_in (j := 1) hL hi (by decide)) dL_law_1292 ?_
  refine ml_aload_n dL_law_1293 0 rfl ?_
  refine ml_iload_n dL_law_1294 3 rfl ?_
  refine ml_iconst (v := 2) dL_law_1295 (by decide) ?_
  refine ml_iadd dL_law_1296 ?_
  refine ml_sld (li_in (j := 2) hL hi (by decide)) dL_law_1297 ?_
  refine ml_aload_n dL_law_1298 0 rfl ?_
  refine ml_iload_n dL_law_1299 3 rfl ?_
  refine ml_iconst (v := 3) dL_law_1300 (by decide) ?_
  refine ml_iadd dL_law_1301 ?_
  refine ml_sld (li_in (j := 3) hL hi (by decide)) dL_law_1302 ?_
  refine ml_callX (dc := 6) (k := 3) (v := .int q.1) (T' := T) cv_L_150 wd_619 rfl wd_622 dL_law_1303 [.int (xs (nI k + 1).toNatClampNeg), .int (xs (nI k + 2).toNatClampNeg), .int (xs (nI k + 3).toNatClampNeg)] [.int (xs (nI k + 3).toNatClampNeg), .int (xs (nI k + 2).toNatClampNeg), .int (xs (nI k + 1).toNatClampNeg), .ref 900] rfl rfl (fun f => rfl) (fun f => rfl) (fun f => rfl) (t_X5_span h5) (fun _ _ _ _ h => h) (fun h => h) ⟨by decide, by decide⟩ (Nat.le_of_ble_eq_true rfl) ?_
  refine ml_aload_n dL_law_1306 2 rfl ?_
  refine ml_aload_n dL_law_1307 0 rfl ?_
  refine ml_iload_n dL_law_1308 3 rfl ?_
  refine ml_iconst (v := 1) dL_law_1309 (by decide) ?_
  refine ml_iadd dL_law_1310 ?_
  refine ml_sld (li_in (j := 1) hL hi (by decide)) dL_law_1311 ?_
  refine ml_aload_n dL_law_1312 0 rfl ?_
  refine ml_iload_n dL_law_1313 3 rfl ?_
  refine ml_iconst (v := 2) dL_law_1314 (by decide) ?_
  refine ml_iadd dL_law_1315 ?_
  refine ml_sld (li_in (j := 2) hL hi (by decide)) dL_law_1316 ?_
  refine ml_aload_n dL_law_1317 0 rfl ?_
  refine ml_iload_n dL_law_1318 3 rfl ?_
  refine ml_iconst (v := 3) dL_law_1319 (by decide) ?_
  refine ml_iadd dL_law_1320 ?_
  refine ml_sld (li_in (j := 3) hL hi (by decide)) dL_law_1321 ?_
  refine ml_callM (dc := 7) (k := 3) (v := .int r.1) cv_L_153 wd_1097 rfl wd_1100 dL_law_1322 [.int (xs (nI k + 1).toNatClampNeg), .int (xs (nI k + 2).toNatClampNeg), .int (xs (nI k + 3).toNatClampNeg)] [.int (xs (nI k + 3).toNatClampNeg), .int (xs (nI k + 2).toNatClampNeg), .int (xs (nI k + 1).toNatClampNeg), .ref 901, .int q.1] rfl rfl (fun f => rfl) (fun f => rfl) (fun f => rfl) (t_X6_span h6) (fun _ _ _ _ h => h) ⟨by decide, by decide⟩ (Nat.le_of_ble_eq_true rfl) ?_
  refine ml_icmp_eq (tgt := 1806) dL_law_1325 (by decide) hv ?_
  exact kk _ _ _ _ hrel
def RS_laws (Rel : Option Nat → mh_I → mh_L → mh_I → Prop) : Prop := ∀ (T : Option Nat) (I1 : mh_I) (L1 : mh_L) (I2 : mh_I) (a1 a2 a3 : Int32), Rel T I1 L1 I2 → ∃ (q : Int32 × mh_I × mh_L) (r : Int32 × mh_I), X5_laws a1 a2 a3 I1 L1 = some q ∧ X6_laws a1 a2 a3 I2 = some r ∧ q.1 = r.1 ∧ Rel T q.2.1 q.2.2 r.2
set_option maxHeartbeats 4000000 in
set_option maxRecDepth 100000 in
theorem lc_laws (Rel : Option Nat → mh_I → mh_L → mh_I → Prop) (hT : ∀ T I1 L1 I2, Rel T I1 L1 I2 → ∀ t, T = some t → t < 46) (hR : RS_laws Rel) {L0 k : Nat} {xs : Nat → Int32} (hL : L0 ≤ 3584) (hi : k + 7 ≤ L0) {T : Option Nat} {I1 I2 : mh_I} {L1 L2 : mh_L} (hrel : Rel T I1 L1 I2) (kk : ∀ T1 J1 K1 J2, Rel T1 J1 K1 J2 → ml_W L0 xs T1 J1 K1 J2 L2 1806 [(0, .ref 1002), (1, .ref 900), (2, .ref 901), (3, .int (nI k))] []) : ml_W L0 xs T I1 L1 I2 L2 1330 [(0, .ref 1002), (1, .ref 900), (2, .ref 901), (3, .int (nI k))] [] := by
  obtain ⟨q, r, h5, h6, hv, hrel⟩ := hR T I1 L1 I2 (xs (nI k + 1).toNatClampNeg) (xs (nI k + 2).toNatClampNeg) (xs (nI k + 3).toNatClampNeg) hrel
  refine ml_aload_n dL_law_1330 1 rfl ?_
  refine ml_aload_n dL_law_1331 0 rfl ?_
  refine ml_iload_n dL_law_1332 3 rfl ?_
  refine ml_iconst (v := 1) dL_law_1333 (by decide) ?_
  refine ml_iadd dL_law_1334 ?_
  refine ml_sld (li_in (j := 1) hL hi (by decide)) dL_law_1335 ?_
  refine ml_aload_n dL_law_1336 0 rfl ?_
  refine ml_iload_n dL_law_1337 3 rfl ?_
  refine ml_iconst (v := 2) dL_law_1338 (by decide) ?_
  refine ml_iadd dL_law_1339 ?_
  refine ml_sld (li_in (j := 2) hL hi (by decide)) dL_law_1340 ?_
  refine ml_aload_n dL_law_1341 0 rfl ?_
  refine ml_iload_n dL_law_1342 3 rfl ?_
  refine ml_iconst (v := 3) dL_law_1343 (by decide) ?_
  refine ml_iadd dL_law_1344 ?_
  refine ml_sld (li_in (j := 3) hL hi (by decide)) dL_law_1345 ?_
  refine ml_callX (dc := 5) (k := 3) (v := .int q.1) (T' := T) cv_L_154 wd_623 rfl wd_626 dL_law_1346 [.int (xs (nI k + 1).toNatClampNeg), .int (xs (nI k + 2).toNatClampNeg), .int (xs (nI k + 3).toNatClampNeg)] [.int (xs (nI k + 3).toNatClampNeg), .int (xs (nI k + 2).toNatClampNeg), .int (xs (nI k + 1).toNatClampNeg), .ref 900] rfl rfl (fun f => rfl) (fun f => rfl) (fun f => rfl) (t_X5_laws h5) (fun _ _ _ _ h => h) (fun h => h) ⟨by decide, by decide⟩ (Nat.le_of_ble_eq_true rfl) ?_
  refine ml_aload_n dL_law_1349 2 rfl ?_
  refine ml_aload_n dL_law_1350 0 rfl ?_
  refine ml_iload_n dL_law_1351 3 rfl ?_
  refine ml_iconst (v := 1) dL_law_1352 (by decide) ?_
  refine ml_iadd dL_law_1353 ?_
  refine ml_sld (li_in (j := 1) hL hi (by decide)) dL_law_1354 ?_
  refine ml_aload_n dL_law_1355 0 rfl ?_
  refine ml_iload_n dL_law_1356 3 rfl ?_
  refine ml_iconst (v := 2) dL_law_1357 (by decide) ?_
  refine ml_iadd dL_law_1358 ?_
  refine ml_sld (li_in (j := 2) hL hi (by decide)) dL_law_1359 ?_
  refine ml_aload_n dL_law_1360 0 rfl ?_
  refine ml_iload_n dL_law_1361 3 rfl ?_
  refine ml_iconst (v := 3) dL_law_1362 (by decide) ?_
  refine ml_iadd dL_law_1363 ?_
  refine ml_sld (li_in (j := 3) hL hi (by decide)) dL_law_1364 ?_
  refine ml_callM (dc := 7) (k := 3) (v := .int r.1) cv_L_157 wd_1101 rfl wd_1104 dL_law_1365 [.int (xs (nI k + 1).toNatClampNeg), .int (xs (nI k + 2).toNatClampNeg), .int (xs (nI k + 3).toNatClampNeg)] [.int (xs (nI k + 3).toNatClampNeg), .int (xs (nI k + 2).toNatClampNeg), .int (xs (nI k + 1).toNatClampNeg), .ref 901, .int q.1] rfl rfl (fun f => rfl) (fun f => rfl) (fun f => rfl) (t_X6_laws h6) (fun _ _ _ _ h => h) ⟨by decide, by decide⟩ (Nat.le_of_ble_eq_true rfl) ?_
  refine ml_icmp_eq (tgt := 1806) dL_law_1368 (by decide) hv ?_
  exact kk _ _ _ _ hrel
def RS_film (Rel : Option Nat → mh_I → mh_L → mh_I → Prop) : Prop := ∀ (T : Option Nat) (I1 : mh_I) (L1 : mh_L) (I2 : mh_I) (a1 a2 a3 : Int32), Rel T I1 L1 I2 → ∃ (q : Int32 × mh_I × mh_L) (r : Int32 × mh_I), X5_film a1 a2 a3 I1 L1 = some q ∧ X6_film a1 a2 a3 I2 = some r ∧ q.1 = r.1 ∧ Rel T q.2.1 q.2.2 r.2
set_option maxHeartbeats 4000000 in
set_option maxRecDepth 100000 in
theorem lc_film (Rel : Option Nat → mh_I → mh_L → mh_I → Prop) (hT : ∀ T I1 L1 I2, Rel T I1 L1 I2 → ∀ t, T = some t → t < 46) (hR : RS_film Rel) {L0 k : Nat} {xs : Nat → Int32} (hL : L0 ≤ 3584) (hi : k + 7 ≤ L0) {T : Option Nat} {I1 I2 : mh_I} {L1 L2 : mh_L} (hrel : Rel T I1 L1 I2) (kk : ∀ T1 J1 K1 J2, Rel T1 J1 K1 J2 → ml_W L0 xs T1 J1 K1 J2 L2 1806 [(0, .ref 1002), (1, .ref 900), (2, .ref 901), (3, .int (nI k))] []) : ml_W L0 xs T I1 L1 I2 L2 1373 [(0, .ref 1002), (1, .ref 900), (2, .ref 901), (3, .int (nI k))] [] := by
  obtain ⟨q, r, h5, h6, hv, hrel⟩ := hR T I1 L1 I2 (xs (nI k + 1).toNatClampNeg) (xs (nI k + 2).toNatClampNeg) (xs (nI k + 3).toNatClampNeg) hrel
  refine ml_aload_n dL_law_1373 1 rfl ?_
  refine ml_aload_n dL_law_1374 0 rfl ?_
  refine ml_iload_n dL_law_1375 3 rfl ?_
  refine ml_iconst (v := 1) dL_law_1376 (by decide) ?_
  refine ml_iadd dL_law_1377 ?_
  refine ml_sld (li_in (j := 1) hL hi (by decide)) dL_law_1378 ?_
  refine ml_aload_n dL_law_1379 0 rfl ?_
  refine ml_iload_n dL_law_1380 3 rfl ?_
  refine ml_iconst (v := 2) dL_law_1381 (by decide) ?_
  refine ml_iadd dL_law_1382 ?_
  refine ml_sld (li_in (j := 2) hL hi (by decide)) dL_law_1383 ?_
  refine ml_aload_n dL_law_1384 0 rfl ?_
  refine ml_iload_n dL_law_1385 3 rfl ?_
  refine ml_iconst (v := 3) dL_law_1386 (by decide) ?_
  refine ml_iadd dL_law_1387 ?_
  refine ml_sld (li_in (j := 3) hL hi (by decide)) dL_law_1388 ?_
  refine ml_callX (dc := 6) (k := 3) (v := .int q.1) (T' := T) cv_L_158 wd_627 rfl wd_630 dL_law_1389 [.int (xs (nI k + 1).toNatClampNeg), .int (xs (nI k + 2).toNatClampNeg), .int (xs (nI k + 3).toNatClampNeg)] [.int (xs (nI k + 3).toNatClampNeg), .int (xs (nI k + 2).toNatClampNeg), .int (xs (nI k + 1).toNatClampNeg), .ref 900] rfl rfl (fun f => rfl) (fun f => rfl) (fun f => rfl) (t_X5_film h5) (fun _ _ _ _ h => h) (fun h => h) ⟨by decide, by decide⟩ (Nat.le_of_ble_eq_true rfl) ?_
  refine ml_aload_n dL_law_1392 2 rfl ?_
  refine ml_aload_n dL_law_1393 0 rfl ?_
  refine ml_iload_n dL_law_1394 3 rfl ?_
  refine ml_iconst (v := 1) dL_law_1395 (by decide) ?_
  refine ml_iadd dL_law_1396 ?_
  refine ml_sld (li_in (j := 1) hL hi (by decide)) dL_law_1397 ?_
  refine ml_aload_n dL_law_1398 0 rfl ?_
  refine ml_iload_n dL_law_1399 3 rfl ?_
  refine ml_iconst (v := 2) dL_law_1400 (by decide) ?_
  refine ml_iadd dL_law_1401 ?_
  refine ml_sld (li_in (j := 2) hL hi (by decide)) dL_law_1402 ?_
  refine ml_aload_n dL_law_1403 0 rfl ?_
  refine ml_iload_n dL_law_1404 3 rfl ?_
  refine ml_iconst (v := 3) dL_law_1405 (by decide) ?_
  refine ml_iadd dL_law_1406 ?_
  refine ml_sld (li_in (j := 3) hL hi (by decide)) dL_law_1407 ?_
  refine ml_callM (dc := 7) (k := 3) (v := .int r.1) cv_L_161 wd_1105 rfl wd_1108 dL_law_1408 [.int (xs (nI k + 1).toNatClampNeg), .int (xs (nI k + 2).toNatClampNeg), .int (xs (nI k + 3).toNatClampNeg)] [.int (xs (nI k + 3).toNatClampNeg), .int (xs (nI k + 2).toNatClampNeg), .int (xs (nI k + 1).toNatClampNeg), .ref 901, .int q.1] rfl rfl (fun f => rfl) (fun f => rfl) (fun f => rfl) (t_X6_film h6) (fun _ _ _ _ h => h) ⟨by decide, by decide⟩ (Nat.le_of_ble_eq_true rfl) ?_
  refine ml_icmp_eq (tgt := 1806) dL_law_1411 (by decide) hv ?_
  exact kk _ _ _ _ hrel
def RS_slips (Rel : Option Nat → mh_I → mh_L → mh_I → Prop) : Prop := ∀ (T : Option Nat) (I1 : mh_I) (L1 : mh_L) (I2 : mh_I) (a1 a2 a3 a4 : Int32), Rel T I1 L1 I2 → ∃ (q : Int32 × mh_I × mh_L) (r : Int32 × mh_I), X5_slips a1 a2 a3 a4 I1 L1 = some q ∧ X6_slips a1 a2 a3 a4 I2 = some r ∧ q.1 = r.1 ∧ Rel T q.2.1 q.2.2 r.2
set_option maxHeartbeats 4000000 in
set_option maxRecDepth 100000 in
theorem lc_slips (Rel : Option Nat → mh_I → mh_L → mh_I → Prop) (hT : ∀ T I1 L1 I2, Rel T I1 L1 I2 → ∀ t, T = some t → t < 46) (hR : RS_slips Rel) {L0 k : Nat} {xs : Nat → Int32} (hL : L0 ≤ 3584) (hi : k + 7 ≤ L0) {T : Option Nat} {I1 I2 : mh_I} {L1 L2 : mh_L} (hrel : Rel T I1 L1 I2) (kk : ∀ T1 J1 K1 J2, Rel T1 J1 K1 J2 → ml_W L0 xs T1 J1 K1 J2 L2 1806 [(0, .ref 1002), (1, .ref 900), (2, .ref 901), (3, .int (nI k))] []) : ml_W L0 xs T I1 L1 I2 L2 1416 [(0, .ref 1002), (1, .ref 900), (2, .ref 901), (3, .int (nI k))] [] := by
  obtain ⟨q, r, h5, h6, hv, hrel⟩ := hR T I1 L1 I2 (xs (nI k + 1).toNatClampNeg) (xs (nI k + 2).toNatClampNeg) (xs (nI k + 3).toNatClampNeg) (xs (nI k + 4).toNatClampNeg) hrel
  refine ml_aload_n dL_law_1416 1 rfl ?_
  refine ml_aload_n dL_law_1417 0 rfl ?_
  refine ml_iload_n dL_law_1418 3 rfl ?_
  refine ml_iconst (v := 1) dL_law_1419 (by decide) ?_
  refine ml_iadd dL_law_1420 ?_
  refine ml_sld (li_in (j := 1) hL hi (by decide)) dL_law_1421 ?_
  refine ml_aload_n dL_law_1422 0 rfl ?_
  refine ml_iload_n dL_law_1423 3 rfl ?_
  refine ml_iconst (v := 2) dL_law_1424 (by decide) ?_
  refine ml_iadd dL_law_1425 ?_
  refine ml_sld (li_in (j := 2) hL hi (by decide)) dL_law_1426 ?_
  refine ml_aload_n dL_law_1427 0 rfl ?_
  refine ml_iload_n dL_law_1428 3 rfl ?_
  refine ml_iconst (v := 3) dL_law_1429 (by decide) ?_
  refine ml_iadd dL_law_1430 ?_
  refine ml_sld (li_in (j := 3) hL hi (by decide)) dL_law_1431 ?_
  refine ml_aload_n dL_law_1432 0 rfl ?_
  refine ml_iload_n dL_law_1433 3 rfl ?_
  refine ml_iconst (v := 4) dL_law_1434 (by decide) ?_
  refine ml_iadd dL_law_1435 ?_
  refine ml_sld (li_in (j := 4) hL hi (by decide)) dL_law_1436 ?_
  refine ml_callX (dc := 6) (k := 4) (v := .int q.1) (T' := T) cv_L_162 wd_639 rfl wd_642 dL_law_1437 [.int (xs (nI k + 1).toNatClampNeg), .int (xs (nI k + 2).toNatClampNeg), .int (xs (nI k + 3).toNatClampNeg), .int (xs (nI k + 4).toNatClampNeg)] [.int (xs (nI k + 4).toNatClampNeg), .int (xs (nI k + 3).toNatClampNeg), .int (xs (nI k + 2).toNatClampNeg), .int (xs (nI k + 1).toNatClampNeg), .ref 900] rfl rfl (fun f => rfl) (fun f => rfl) (fun f => rfl) (t_X5_slips h5) (fun _ _ _ _ h => h) (fun h => h) ⟨by decide, by decide⟩ (Nat.le_of_ble_eq_true rfl) ?_
  refine ml_aload_n dL_law_1440 2 rfl ?_
  refine ml_aload_n dL_law_1441 0 rfl ?_
  refine ml_iload_n dL_law_1442 3 rfl ?_
  refine ml_iconst (v := 1) dL_law_1443 (by decide) ?_
  refine ml_iadd dL_law_1444 ?_
  refine ml_sld (li_in (j := 1) hL hi (by decide)) dL_law_1445 ?_
  refine ml_aload_n dL_law_1446 0 rfl ?_
  refine ml_iload_n dL_law_1447 3 rfl ?_
  refine ml_iconst (v := 2) dL_law_1448 (by decide) ?_
  refine ml_iadd dL_law_1449 ?_
  refine ml_sld (li_in (j := 2) hL hi (by decide)) dL_law_1450 ?_
  refine ml_aload_n dL_law_1451 0 rfl ?_
  refine ml_iload_n dL_law_1452 3 rfl ?_
  refine ml_iconst (v := 3) dL_law_1453 (by decide) ?_
  refine ml_iadd dL_law_1454 ?_
  refine ml_sld (li_in (j := 3) hL hi (by decide)) dL_law_1455 ?_
  refine ml_aload_n dL_law_1456 0 rfl ?_
  refine ml_iload_n dL_law_1457 3 rfl ?_
  refine ml_iconst (v := 4) dL_law_1458 (by decide) ?_
  refine ml_iadd dL_law_1459 ?_
  refine ml_sld (li_in (j := 4) hL hi (by decide)) dL_law_1460 ?_
  refine ml_callM (dc := 7) (k := 4) (v := .int r.1) cv_L_165 wd_1109 rfl wd_1112 dL_law_1461 [.int (xs (nI k + 1).toNatClampNeg), .int (xs (nI k + 2).toNatClampNeg), .int (xs (nI k + 3).toNatClampNeg), .int (xs (nI k + 4).toNatClampNeg)] [.int (xs (nI k + 4).toNatClampNeg), .int (xs (nI k + 3).toNatClampNeg), .int (xs (nI k + 2).toNatClampNeg), .int (xs (nI k + 1).toNatClampNeg), .ref 901, .int q.1] rfl rfl (fun f => rfl) (fun f => rfl) (fun f => rfl) (t_X6_slips h6) (fun _ _ _ _ h => h) ⟨by decide, by decide⟩ (Nat.le_of_ble_eq_true rfl) ?_
  refine ml_icmp_eq (tgt := 1806) dL_law_1464 (by decide) hv ?_
  exact kk _ _ _ _ hrel
def RS_odds (Rel : Option Nat → mh_I → mh_L → mh_I → Prop) : Prop := ∀ (T : Option Nat) (I1 : mh_I) (L1 : mh_L) (I2 : mh_I) (a1 a2 a3 a4 a5 a6 : Int32), Rel T I1 L1 I2 → ∃ (q : Int64 × mh_I × mh_L) (r : Int64 × mh_I), X5_odds a1 a2 a3 a4 a5 a6 I1 L1 = some q ∧ X6_odds a1 a2 a3 a4 a5 a6 I2 = some r ∧ q.1 = r.1 ∧ Rel T q.2.1 q.2.2 r.2
set_option maxHeartbeats 4000000 in
set_option maxRecDepth 100000 in
theorem lc_odds (Rel : Option Nat → mh_I → mh_L → mh_I → Prop) (hT : ∀ T I1 L1 I2, Rel T I1 L1 I2 → ∀ t, T = some t → t < 46) (hR : RS_odds Rel) {L0 k : Nat} {xs : Nat → Int32} (hL : L0 ≤ 3584) (hi : k + 7 ≤ L0) {T : Option Nat} {I1 I2 : mh_I} {L1 L2 : mh_L} (hrel : Rel T I1 L1 I2) (kk : ∀ T1 J1 K1 J2, Rel T1 J1 K1 J2 → ml_W L0 xs T1 J1 K1 J2 L2 1806 [(0, .ref 1002), (1, .ref 900), (2, .ref 901), (3, .int (nI k))] []) : ml_W L0 xs T I1 L1 I2 L2 1469 [(0, .ref 1002), (1, .ref 900), (2, .ref 901), (3, .int (nI k))] [] := by
  obtain ⟨q, r, h5, h6, hv, hrel⟩ := hR T I1 L1 I2 (xs (nI k + 1).toNatClampNeg) (xs (nI k + 2).toNatClampNeg) (xs (nI k + 3).toNatClampNeg) (xs (nI k + 4).toNatClampNeg) (xs (nI k + 5).toNatClampNeg) (xs (nI k + 6).toNatClampNeg) hrel
  refine ml_aload_n dL_law_1469 1 rfl ?_
  refine ml_aload_n dL_law_1470 0 rfl ?_
  refine ml_iload_n dL_law_1471 3 rfl ?_
  refine ml_iconst (v := 1) dL_law_1472 (by decide) ?_
  refine ml_iadd dL_law_1473 ?_
  refine ml_sld (li_in (j := 1) hL hi (by decide)) dL_law_1474 ?_
  refine ml_aload_n dL_law_1475 0 rfl ?_
  refine ml_iload_n dL_law_1476 3 rfl ?_
  refine ml_iconst (v := 2) dL_law_1477 (by decide) ?_
  refine ml_iadd dL_law_1478 ?_
  refine ml_sld (li_in (j := 2) hL hi (by decide)) dL_law_1479 ?_
  refine ml_aload_n dL_law_1480 0 rfl ?_
  refine ml_iload_n dL_law_1481 3 rfl ?_
  refine ml_iconst (v := 3) dL_law_1482 (by decide) ?_
  refine ml_iadd dL_law_1483 ?_
  refine ml_sld (li_in (j := 3) hL hi (by decide)) dL_law_1484 ?_
  refine ml_aload_n dL_law_1485 0 rfl ?_
  refine ml_iload_n dL_law_1486 3 rfl ?_
  refine ml_iconst (v := 4) dL_law_1487 (by decide) ?_
  refine ml_iadd dL_law_1488 ?_
  refine ml_sld (li_in (j := 4) hL hi (by decide)) dL_law_1489 ?_
  refine ml_aload_n dL_law_1490 0 rfl ?_
  refine ml_iload_n dL_law_1491 3 rfl ?_
  refine ml_iconst (v := 5) dL_law_1492 (by decide) ?_
  refine ml_iadd dL_law_1493 ?_
  refine ml_sld (li_in (j := 5) hL hi (by decide)) dL_law_1494 ?_
  refine ml_aload_n dL_law_1495 0 rfl ?_
  refine ml_iload_n dL_law_1496 3 rfl ?_
  refine ml_bipush (v := 6) dL_law_1497 (by decide) ?_
  refine ml_iadd dL_law_1499 ?_
  refine ml_sld (li_in (j := 6) hL hi (by decide)) dL_law_1500 ?_
  refine ml_callX (dc := 6) (k := 6) (v := .long q.1) (T' := T) cv_L_166 wd_651 rfl wd_654 dL_law_1501 [.int (xs (nI k + 1).toNatClampNeg), .int (xs (nI k + 2).toNatClampNeg), .int (xs (nI k + 3).toNatClampNeg), .int (xs (nI k + 4).toNatClampNeg), .int (xs (nI k + 5).toNatClampNeg), .int (xs (nI k + 6).toNatClampNeg)] [.int (xs (nI k + 6).toNatClampNeg), .int (xs (nI k + 5).toNatClampNeg), .int (xs (nI k + 4).toNatClampNeg), .int (xs (nI k + 3).toNatClampNeg), .int (xs (nI k + 2).toNatClampNeg), .int (xs (nI k + 1).toNatClampNeg), .ref 900] rfl rfl (fun f => rfl) (fun f => rfl) (fun f => rfl) (t_X5_odds h5) (fun _ _ _ _ h => h) (fun h => h) ⟨by decide, by decide⟩ (Nat.le_of_ble_eq_true rfl) ?_
  refine ml_aload_n dL_law_1504 2 rfl ?_
  refine ml_aload_n dL_law_1505 0 rfl ?_
  refine ml_iload_n dL_law_1506 3 rfl ?_
  refine ml_iconst (v := 1) dL_law_1507 (by decide) ?_
  refine ml_iadd dL_law_1508 ?_
  refine ml_sld (li_in (j := 1) hL hi (by decide)) dL_law_1509 ?_
  refine ml_aload_n dL_law_1510 0 rfl ?_
  refine ml_iload_n dL_law_1511 3 rfl ?_
  refine ml_iconst (v := 2) dL_law_1512 (by decide) ?_
  refine ml_iadd dL_law_1513 ?_
  refine ml_sld (li_in (j := 2) hL hi (by decide)) dL_law_1514 ?_
  refine ml_aload_n dL_law_1515 0 rfl ?_
  refine ml_iload_n dL_law_1516 3 rfl ?_
  refine ml_iconst (v := 3) dL_law_1517 (by decide) ?_
  refine ml_iadd dL_law_1518 ?_
  refine ml_sld (li_in (j := 3) hL hi (by decide)) dL_law_1519 ?_
  refine ml_aload_n dL_law_1520 0 rfl ?_
  refine ml_iload_n dL_law_1521 3 rfl ?_
  refine ml_iconst (v := 4) dL_law_1522 (by decide) ?_
  refine ml_iadd dL_law_1523 ?_
  refine ml_sld (li_in (j := 4) hL hi (by decide)) dL_law_1524 ?_
  refine ml_aload_n dL_law_1525 0 rfl ?_
  refine ml_iload_n dL_law_1526 3 rfl ?_
  refine ml_iconst (v := 5) dL_law_1527 (by decide) ?_
  refine ml_iadd dL_law_1528 ?_
  refine ml_sld (li_in (j := 5) hL hi (by decide)) dL_law_1529 ?_
  refine ml_aload_n dL_law_1530 0 rfl ?_
  refine ml_iload_n dL_law_1531 3 rfl ?_
  refine ml_bipush (v := 6) dL_law_1532 (by decide) ?_
  refine ml_iadd dL_law_1534 ?_
  refine ml_sld (li_in (j := 6) hL hi (by decide)) dL_law_1535 ?_
  refine ml_callM (dc := 7) (k := 6) (v := .long r.1) cv_L_170 wd_1124 rfl wd_1127 dL_law_1536 [.int (xs (nI k + 1).toNatClampNeg), .int (xs (nI k + 2).toNatClampNeg), .int (xs (nI k + 3).toNatClampNeg), .int (xs (nI k + 4).toNatClampNeg), .int (xs (nI k + 5).toNatClampNeg), .int (xs (nI k + 6).toNatClampNeg)] [.int (xs (nI k + 6).toNatClampNeg), .int (xs (nI k + 5).toNatClampNeg), .int (xs (nI k + 4).toNatClampNeg), .int (xs (nI k + 3).toNatClampNeg), .int (xs (nI k + 2).toNatClampNeg), .int (xs (nI k + 1).toNatClampNeg), .ref 901, .long q.1] rfl rfl (fun f => rfl) (fun f => rfl) (fun f => rfl) (t_X6_odds h6) (fun _ _ _ _ h => h) ⟨by decide, by decide⟩ (Nat.le_of_ble_eq_true rfl) ?_
  refine ml_lcmp dL_law_1539 ?_
  refine ml_if_eq (tgt := 1806) dL_law_1540 (by decide) (lg_cmp_eq0 hv) ?_
  exact kk _ _ _ _ hrel
def RS_image (Rel : Option Nat → mh_I → mh_L → mh_I → Prop) : Prop := ∀ (T : Option Nat) (I1 : mh_I) (L1 : mh_L) (I2 : mh_I), Rel T I1 L1 I2 → ∃ (q : Int32 × mh_I × mh_L) (r : Int32 × mh_I), X5_image I1 L1 = some q ∧ X6_image I2 = some r ∧ q.1 = r.1 ∧ Rel T q.2.1 q.2.2 r.2
set_option maxHeartbeats 4000000 in
set_option maxRecDepth 100000 in
theorem lc_image (Rel : Option Nat → mh_I → mh_L → mh_I → Prop) (hT : ∀ T I1 L1 I2, Rel T I1 L1 I2 → ∀ t, T = some t → t < 46) (hR : RS_image Rel) {L0 k : Nat} {xs : Nat → Int32} (hL : L0 ≤ 3584) (hi : k + 7 ≤ L0) {T : Option Nat} {I1 I2 : mh_I} {L1 L2 : mh_L} (hrel : Rel T I1 L1 I2) (kk : ∀ T1 J1 K1 J2, Rel T1 J1 K1 J2 → ml_W L0 xs T1 J1 K1 J2 L2 1806 [(0, .ref 1002), (1, .ref 900), (2, .ref 901), (3, .int (nI k))] []) : ml_W L0 xs T I1 L1 I2 L2 1545 [(0, .ref 1002), (1, .ref 900), (2, .ref 901), (3, .int (nI k))] [] := by
  obtain ⟨q, r, h5, h6, hv, hrel⟩ := hR T I1 L1 I2 hrel
  refine ml_aload_n dL_law_1545 1 rfl ?_
  refine ml_callX (dc := 2) (k := 0) (v := .int q.1) (T' := T) cv_L_171 wd_658 rfl wd_661 dL_law_1546 [] [.ref 900] rfl rfl (fun f => rfl) (fun f => rfl) (fun f => rfl) (t_X5_image h5) (fun _ _ _ _ h => h) (fun h => h) ⟨by decide, by decide⟩ (Nat.le_of_ble_eq_true rfl) ?_
  refine ml_aload_n dL_law_1549 2 rfl ?_
  refine ml_callM (dc := 1) (k := 0) (v := .int r.1) cv_L_174 wd_1131 rfl wd_1134 dL_law_1550 [] [.ref 901, .int q.1] rfl rfl (fun f => rfl) (fun f => rfl) (fun f => rfl) (t_X6_image h6) (fun _ _ _ _ h => h) ⟨by decide, by decide⟩ (Nat.le_of_ble_eq_true rfl) ?_
  refine ml_icmp_eq (tgt := 1806) dL_law_1553 (by decide) hv ?_
  exact kk _ _ _ _ hrel
def RS_restore (Rel : Option Nat → mh_I → mh_L → mh_I → Prop) : Prop := ∀ (T : Option Nat) (I1 : mh_I) (L1 : mh_L) (I2 : mh_I), Rel T I1 L1 I2 → ∃ (q : Int32 × mh_I × mh_L) (r : Int32 × mh_I), X5_restore I1 L1 = some q ∧ X6_restore I2 = some r ∧ q.1 = r.1 ∧ Rel T q.2.1 q.2.2 r.2
set_option maxHeartbeats 4000000 in
set_option maxRecDepth 100000 in
theorem lc_restore (Rel : Option Nat → mh_I → mh_L → mh_I → Prop) (hT : ∀ T I1 L1 I2, Rel T I1 L1 I2 → ∀ t, T = some t → t < 46) (hR : RS_restore Rel) {L0 k : Nat} {xs : Nat → Int32} (hL : L0 ≤ 3584) (hi : k + 7 ≤ L0) {T : Option Nat} {I1 I2 : mh_I} {L1 L2 : mh_L} (hrel : Rel T I1 L1 I2) (kk : ∀ T1 J1 K1 J2, Rel T1 J1 K1 J2 → ml_W L0 xs T1 J1 K1 J2 L2 1806 [(0, .ref 1002), (1, .ref 900), (2, .ref 901), (3, .int (nI k))] []) : ml_W L0 xs T I1 L1 I2 L2 1558 [(0, .ref 1002), (1, .ref 900), (2, .ref 901), (3, .int (nI k))] [] := by
  obtain ⟨q, r, h5, h6, hv, hrel⟩ := hR T I1 L1 I2 hrel
  refine ml_aload_n dL_law_1558 1 rfl ?_
  refine ml_callX (dc := 2) (k := 0) (v := .int q.1) (T' := T) cv_L_175 wd_669 rfl wd_672 dL_law_1559 [] [.ref 900] rfl rfl (fun f => rfl) (fun f => rfl) (fun f => rfl) (t_X5_restore h5) (fun _ _ _ _ h => h) (fun h => h) ⟨by decide, by decide⟩ (Nat.le_of_ble_eq_true rfl) ?_
  refine ml_aload_n dL_law_1562 2 rfl ?_
  refine ml_callM (dc := 1) (k := 0) (v := .int r.1) cv_L_178 wd_1135 rfl wd_1138 dL_law_1563 [] [.ref 901, .int q.1] rfl rfl (fun f => rfl) (fun f => rfl) (fun f => rfl) (t_X6_restore h6) (fun _ _ _ _ h => h) ⟨by decide, by decide⟩ (Nat.le_of_ble_eq_true rfl) ?_
  refine ml_icmp_eq (tgt := 1806) dL_law_1566 (by decide) hv ?_
  exact kk _ _ _ _ hrel
def RS_sheet (Rel : Option Nat → mh_I → mh_L → mh_I → Prop) : Prop := ∀ (T : Option Nat) (I1 : mh_I) (L1 : mh_L) (I2 : mh_I) (a1 a2 a3 : Int32), Rel T I1 L1 I2 → ∃ (q : Int32 × mh_I) (r : Int32 × mh_I), X5_sheet a1 a2 a3 I1 = some q ∧ X6_sheet a1 a2 a3 I2 = some r ∧ q.1 = r.1 ∧ Rel T q.2 L1 r.2
set_option maxHeartbeats 4000000 in
set_option maxRecDepth 100000 in
theorem lc_sheet (Rel : Option Nat → mh_I → mh_L → mh_I → Prop) (hT : ∀ T I1 L1 I2, Rel T I1 L1 I2 → ∀ t, T = some t → t < 46) (hR : RS_sheet Rel) {L0 k : Nat} {xs : Nat → Int32} (hL : L0 ≤ 3584) (hi : k + 7 ≤ L0) {T : Option Nat} {I1 I2 : mh_I} {L1 L2 : mh_L} (hrel : Rel T I1 L1 I2) (kk : ∀ T1 J1 K1 J2, Rel T1 J1 K1 J2 → ml_W L0 xs T1 J1 K1 J2 L2 1806 [(0, .ref 1002), (1, .ref 900), (2, .ref 901), (3, .int (nI k))] []) : ml_W L0 xs T I1 L1 I2 L2 1571 [(0, .ref 1002), (1, .ref 900), (2, .ref 901), (3, .int (nI k))] [] := by
  obtain ⟨q, r, h5, h6, hv, hrel⟩ := hR T I1 L1 I2 (xs (nI k + 1).toNatClampNeg) (xs (nI k + 2).toNatClampNeg) (xs (nI k + 3).toNatClampNeg) hrel
  refine ml_aload_n dL_law_1571 1 rfl ?_
  refine ml_aload_n dL_law_1572 0 rfl ?_
  refine ml_iload_n dL_law_1573 3 rfl ?_
  refine ml_iconst (v := 1) dL_law_1574 (by decide) ?_
  refine ml_iadd dL_law_1575 ?_
  refine ml_sld (li_in (j := 1) hL hi (by decide)) dL_law_1576 ?_
  refine ml_aload_n dL_law_1577 0 rfl ?_
  refine ml_iload_n dL_law_1578 3 rfl ?_
  refine ml_iconst (v := 2) dL_law_1579 (by decide) ?_
  refine ml_iadd dL_law_1580 ?_
  refine ml_sld (li_in (j := 2) hL hi (by decide)) dL_law_1581 ?_
  refine ml_aload_n dL_law_1582 0 rfl ?_
  refine ml_iload_n dL_law_1583 3 rfl ?_
  refine ml_iconst (v := 3) dL_law_1584 (by decide) ?_
  refine ml_iadd dL_law_1585 ?_
  refine ml_sld (li_in (j := 3) hL hi (by decide)) dL_law_1586 ?_
  refine ml_callX (dc := 2) (k := 3) (v := .int q.1) (T' := T) cv_L_179 wd_673 rfl wd_676 dL_law_1587 [.int (xs (nI k + 1).toNatClampNeg), .int (xs (nI k + 2).toNatClampNeg), .int (xs (nI k + 3).toNatClampNeg)] [.int (xs (nI k + 3).toNatClampNeg), .int (xs (nI k + 2).toNatClampNeg), .int (xs (nI k + 1).toNatClampNeg), .ref 900] rfl rfl (fun f => rfl) (fun f => rfl) (fun f => rfl) (t_X5_sheet h5) (fun _ _ _ _ h => h) (fun h => h) ⟨by decide, by decide⟩ (Nat.le_of_ble_eq_true rfl) ?_
  refine ml_aload_n dL_law_1590 2 rfl ?_
  refine ml_aload_n dL_law_1591 0 rfl ?_
  refine ml_iload_n dL_law_1592 3 rfl ?_
  refine ml_iconst (v := 1) dL_law_1593 (by decide) ?_
  refine ml_iadd dL_law_1594 ?_
  refine ml_sld (li_in (j := 1) hL hi (by decide)) dL_law_1595 ?_
  refine ml_aload_n dL_law_1596 0 rfl ?_
  refine ml_iload_n dL_law_1597 3 rfl ?_
  refine ml_iconst (v := 2) dL_law_1598 (by decide) ?_
  refine ml_iadd dL_law_1599 ?_
  refine ml_sld (li_in (j := 2) hL hi (by decide)) dL_law_1600 ?_
  refine ml_aload_n dL_law_1601 0 rfl ?_
  refine ml_iload_n dL_law_1602 3 rfl ?_
  refine ml_iconst (v := 3) dL_law_1603 (by decide) ?_
  refine ml_iadd dL_law_1604 ?_
  refine ml_sld (li_in (j := 3) hL hi (by decide)) dL_law_1605 ?_
  refine ml_callM (dc := 1) (k := 3) (v := .int r.1) cv_L_182 wd_1139 rfl wd_1142 dL_law_1606 [.int (xs (nI k + 1).toNatClampNeg), .int (xs (nI k + 2).toNatClampNeg), .int (xs (nI k + 3).toNatClampNeg)] [.int (xs (nI k + 3).toNatClampNeg), .int (xs (nI k + 2).toNatClampNeg), .int (xs (nI k + 1).toNatClampNeg), .ref 901, .int q.1] rfl rfl (fun f => rfl) (fun f => rfl) (fun f => rfl) (t_X6_sheet h6) (fun _ _ _ _ h => h) ⟨by decide, by decide⟩ (Nat.le_of_ble_eq_true rfl) ?_
  refine ml_icmp_eq (tgt := 1806) dL_law_1609 (by decide) hv ?_
  exact kk _ _ _ _ hrel
def RS_cell (Rel : Option Nat → mh_I → mh_L → mh_I → Prop) : Prop := ∀ (T : Option Nat) (I1 : mh_I) (L1 : mh_L) (I2 : mh_I) (a1 a2 a3 : Int32), Rel T I1 L1 I2 → ∃ (q : Int32 × mh_I) (r : Int32 × mh_I), X5_cell a1 a2 a3 I1 = some q ∧ X6_cell a1 a2 a3 I2 = some r ∧ q.1 = r.1 ∧ Rel T q.2 L1 r.2
set_option maxHeartbeats 4000000 in
set_option maxRecDepth 100000 in
theorem lc_cell (Rel : Option Nat → mh_I → mh_L → mh_I → Prop) (hT : ∀ T I1 L1 I2, Rel T I1 L1 I2 → ∀ t, T = some t → t < 46) (hR : RS_cell Rel) {L0 k : Nat} {xs : Nat → Int32} (hL : L0 ≤ 3584) (hi : k + 7 ≤ L0) {T : Option Nat} {I1 I2 : mh_I} {L1 L2 : mh_L} (hrel : Rel T I1 L1 I2) (kk : ∀ T1 J1 K1 J2, Rel T1 J1 K1 J2 → ml_W L0 xs T1 J1 K1 J2 L2 1806 [(0, .ref 1002), (1, .ref 900), (2, .ref 901), (3, .int (nI k))] []) : ml_W L0 xs T I1 L1 I2 L2 1614 [(0, .ref 1002), (1, .ref 900), (2, .ref 901), (3, .int (nI k))] [] := by
  obtain ⟨q, r, h5, h6, hv, hrel⟩ := hR T I1 L1 I2 (xs (nI k + 1).toNatClampNeg) (xs (nI k + 2).toNatClampNeg) (xs (nI k + 3).toNatClampNeg) hrel
  refine ml_aload_n dL_law_1614 1 rfl ?_
  refine ml_aload_n dL_law_1615 0 rfl ?_
  refine ml_iload_n dL_law_1616 3 rfl ?_
  refine ml_iconst (v := 1) dL_law_1617 (by decide) ?_
  refine ml_iadd dL_law_1618 ?_
  refine ml_sld (li_in (j := 1) hL hi (by decide)) dL_law_1619 ?_
  refine ml_aload_n dL_law_1620 0 rfl ?_
  refine ml_iload_n dL_law_1621 3 rfl ?_
  refine ml_iconst (v := 2) dL_law_1622 (by decide) ?_
  refine ml_iadd dL_law_1623 ?_
  refine ml_sld (li_in (j := 2) hL hi (by decide)) dL_law_1624 ?_
  refine ml_aload_n dL_law_1625 0 rfl ?_
  refine ml_iload_n dL_law_1626 3 rfl ?_
  refine ml_iconst (v := 3) dL_law_1627 (by decide) ?_
  refine ml_iadd dL_law_1628 ?_
  refine ml_sld (li_in (j := 3) hL hi (by decide)) dL_law_1629 ?_
  refine ml_callX (dc := 2) (k := 3) (v := .int q.1) (T' := T) cv_L_183 wd_677 rfl wd_680 dL_law_1630 [.int (xs (nI k + 1).toNatClampNeg), .int (xs (nI k + 2).toNatClampNeg), .int (xs (nI k + 3).toNatClampNeg)] [.int (xs (nI k + 3).toNatClampNeg), .int (xs (nI k + 2).toNatClampNeg), .int (xs (nI k + 1).toNatClampNeg), .ref 900] rfl rfl (fun f => rfl) (fun f => rfl) (fun f => rfl) (t_X5_cell h5) (fun _ _ _ _ h => h) (fun h => h) ⟨by decide, by decide⟩ (Nat.le_of_ble_eq_true rfl) ?_
  refine ml_aload_n dL_law_1633 2 rfl ?_
  refine ml_aload_n dL_law_1634 0 rfl ?_
  refine ml_iload_n dL_law_1635 3 rfl ?_
  refine ml_iconst (v := 1) dL_law_1636 (by decide) ?_
  refine ml_iadd dL_law_1637 ?_
  refine ml_sld (li_in (j := 1) hL hi (by decide)) dL_law_1638 ?_
  refine ml_aload_n dL_law_1639 0 rfl ?_
  refine ml_iload_n dL_law_1640 3 rfl ?_
  refine ml_iconst (v := 2) dL_law_1641 (by decide) ?_
  refine ml_iadd dL_law_1642 ?_
  refine ml_sld (li_in (j := 2) hL hi (by decide)) dL_law_1643 ?_
  refine ml_aload_n dL_law_1644 0 rfl ?_
  refine ml_iload_n dL_law_1645 3 rfl ?_
  refine ml_iconst (v := 3) dL_law_1646 (by decide) ?_
  refine ml_iadd dL_law_1647 ?_
  refine ml_sld (li_in (j := 3) hL hi (by decide)) dL_law_1648 ?_
  refine ml_callM (dc := 1) (k := 3) (v := .int r.1) cv_L_186 wd_1143 rfl wd_1146 dL_law_1649 [.int (xs (nI k + 1).toNatClampNeg), .int (xs (nI k + 2).toNatClampNeg), .int (xs (nI k + 3).toNatClampNeg)] [.int (xs (nI k + 3).toNatClampNeg), .int (xs (nI k + 2).toNatClampNeg), .int (xs (nI k + 1).toNatClampNeg), .ref 901, .int q.1] rfl rfl (fun f => rfl) (fun f => rfl) (fun f => rfl) (t_X6_cell h6) (fun _ _ _ _ h => h) ⟨by decide, by decide⟩ (Nat.le_of_ble_eq_true rfl) ?_
  refine ml_icmp_eq (tgt := 1806) dL_law_1652 (by decide) hv ?_
  exact kk _ _ _ _ hrel
def RS_copy (Rel : Option Nat → mh_I → mh_L → mh_I → Prop) : Prop := ∀ (T : Option Nat) (I1 : mh_I) (L1 : mh_L) (I2 : mh_I) (a1 a2 a3 a4 a5 : Int32), Rel T I1 L1 I2 → ∃ (q : Int32 × mh_I) (r : Int32 × mh_I), X5_copy a1 a2 a3 a4 a5 I1 = some q ∧ X6_copy a1 a2 a3 a4 a5 I2 = some r ∧ q.1 = r.1 ∧ Rel T q.2 L1 r.2
set_option maxHeartbeats 4000000 in
set_option maxRecDepth 100000 in
theorem lc_copy (Rel : Option Nat → mh_I → mh_L → mh_I → Prop) (hT : ∀ T I1 L1 I2, Rel T I1 L1 I2 → ∀ t, T = some t → t < 46) (hR : RS_copy Rel) {L0 k : Nat} {xs : Nat → Int32} (hL : L0 ≤ 3584) (hi : k + 7 ≤ L0) {T : Option Nat} {I1 I2 : mh_I} {L1 L2 : mh_L} (hrel : Rel T I1 L1 I2) (kk : ∀ T1 J1 K1 J2, Rel T1 J1 K1 J2 → ml_W L0 xs T1 J1 K1 J2 L2 1806 [(0, .ref 1002), (1, .ref 900), (2, .ref 901), (3, .int (nI k))] []) : ml_W L0 xs T I1 L1 I2 L2 1657 [(0, .ref 1002), (1, .ref 900), (2, .ref 901), (3, .int (nI k))] [] := by
  obtain ⟨q, r, h5, h6, hv, hrel⟩ := hR T I1 L1 I2 (xs (nI k + 1).toNatClampNeg) (xs (nI k + 2).toNatClampNeg) (xs (nI k + 3).toNatClampNeg) (xs (nI k + 4).toNatClampNeg) (xs (nI k + 5).toNatClampNeg) hrel
  refine ml_aload_n dL_law_1657 1 rfl ?_
  refine ml_aload_n dL_law_1658 0 rfl ?_
  refine ml_iload_n dL_law_1659 3 rfl ?_
  refine ml_iconst (v := 1) dL_law_1660 (by decide) ?_
  refine ml_iadd dL_law_1661 ?_
  refine ml_sld (li_in (j := 1) hL hi (by decide)) dL_law_1662 ?_
  refine ml_aload_n dL_law_1663 0 rfl ?_
  refine ml_iload_n dL_law_1664 3 rfl ?_
  refine ml_iconst (v := 2) dL_law_1665 (by decide) ?_
  refine ml_iadd dL_law_1666 ?_
  refine ml_sld (li_in (j := 2) hL hi (by decide)) dL_law_1667 ?_
  refine ml_aload_n dL_law_1668 0 rfl ?_
  refine ml_iload_n dL_law_1669 3 rfl ?_
  refine ml_iconst (v := 3) dL_law_1670 (by decide) ?_
  refine ml_iadd dL_law_1671 ?_
  refine ml_sld (li_in (j := 3) hL hi (by decide)) dL_law_1672 ?_
  refine ml_aload_n dL_law_1673 0 rfl ?_
  refine ml_iload_n dL_law_1674 3 rfl ?_
  refine ml_iconst (v := 4) dL_law_1675 (by decide) ?_
  refine ml_iadd dL_law_1676 ?_
  refine ml_sld (li_in (j := 4) hL hi (by decide)) dL_law_1677 ?_
  refine ml_aload_n dL_law_1678 0 rfl ?_
  refine ml_iload_n dL_law_1679 3 rfl ?_
  refine ml_iconst (v := 5) dL_law_1680 (by decide) ?_
  refine ml_iadd dL_law_1681 ?_
  refine ml_sld (li_in (j := 5) hL hi (by decide)) dL_law_1682 ?_
  refine ml_callX (dc := 2) (k := 5) (v := .int q.1) (T' := T) cv_L_187 wd_681 rfl wd_684 dL_law_1683 [.int (xs (nI k + 1).toNatClampNeg), .int (xs (nI k + 2).toNatClampNeg), .int (xs (nI k + 3).toNatClampNeg), .int (xs (nI k + 4).toNatClampNeg), .int (xs (nI k + 5).toNatClampNeg)] [.int (xs (nI k + 5).toNatClampNeg), .int (xs (nI k + 4).toNatClampNeg), .int (xs (nI k + 3).toNatClampNeg), .int (xs (nI k + 2).toNatClampNeg), .int (xs (nI k + 1).toNatClampNeg), .ref 900] rfl rfl (fun f => rfl) (fun f => rfl) (fun f => rfl) (t_X5_copy h5) (fun _ _ _ _ h => h) (fun h => h) ⟨by decide, by decide⟩ (Nat.le_of_ble_eq_true rfl) ?_
  refine ml_aload_n dL_law_1686 2 rfl ?_
  refine ml_aload_n dL_law_1687 0 rfl ?_
  refine ml_iload_n dL_law_1688 3 rfl ?_
  refine ml_iconst (v := 1) dL_law_1689 (by decide) ?_
  refine ml_iadd dL_law_1690 ?_
  refine ml_sld (li_in (j := 1) hL hi (by decide)) dL_law_1691 ?_
  refine ml_aload_n dL_law_1692 0 rfl ?_
  refine ml_iload_n dL_law_1693 3 rfl ?_
  refine ml_iconst (v := 2) dL_law_1694 (by decide) ?_
  refine ml_iadd dL_law_1695 ?_
  refine ml_sld (li_in (j := 2) hL hi (by decide)) dL_law_1696 ?_
  refine ml_aload_n dL_law_1697 0 rfl ?_
  refine ml_iload_n dL_law_1698 3 rfl ?_
  refine ml_iconst (v := 3) dL_law_1699 (by decide) ?_
  refine ml_iadd dL_law_1700 ?_
  refine ml_sld (li_in (j := 3) hL hi (by decide)) dL_law_1701 ?_
  refine ml_aload_n dL_law_1702 0 rfl ?_
  refine ml_iload_n dL_law_1703 3 rfl ?_
  refine ml_iconst (v := 4) dL_law_1704 (by decide) ?_
  refine ml_iadd dL_law_1705 ?_
  refine ml_sld (li_in (j := 4) hL hi (by decide)) dL_law_1706 ?_
  refine ml_aload_n dL_law_1707 0 rfl ?_
  refine ml_iload_n dL_law_1708 3 rfl ?_
  refine ml_iconst (v := 5) dL_law_1709 (by decide) ?_
  refine ml_iadd dL_law_1710 ?_
  refine ml_sld (li_in (j := 5) hL hi (by decide)) dL_law_1711 ?_
  refine ml_callM (dc := 1) (k := 5) (v := .int r.1) cv_L_191 wd_1147 rfl wd_1150 dL_law_1712 [.int (xs (nI k + 1).toNatClampNeg), .int (xs (nI k + 2).toNatClampNeg), .int (xs (nI k + 3).toNatClampNeg), .int (xs (nI k + 4).toNatClampNeg), .int (xs (nI k + 5).toNatClampNeg)] [.int (xs (nI k + 5).toNatClampNeg), .int (xs (nI k + 4).toNatClampNeg), .int (xs (nI k + 3).toNatClampNeg), .int (xs (nI k + 2).toNatClampNeg), .int (xs (nI k + 1).toNatClampNeg), .ref 901, .int q.1] rfl rfl (fun f => rfl) (fun f => rfl) (fun f => rfl) (t_X6_copy h6) (fun _ _ _ _ h => h) ⟨by decide, by decide⟩ (Nat.le_of_ble_eq_true rfl) ?_
  refine ml_icmp_eq (tgt := 1806) dL_law_1715 (by decide) hv ?_
  exact kk _ _ _ _ hrel
def RS_knits (Rel : Option Nat → mh_I → mh_L → mh_I → Prop) : Prop := ∀ (T : Option Nat) (I1 : mh_I) (L1 : mh_L) (I2 : mh_I) (a1 a2 a3 a4 : Int32), Rel T I1 L1 I2 → ∃ (q : Int32 × mh_I) (r : Int32 × mh_I), X5_knits a1 a2 a3 a4 I1 = some q ∧ X6_knits a1 a2 a3 a4 I2 = some r ∧ q.1 = r.1 ∧ Rel T q.2 L1 r.2
set_option maxHeartbeats 4000000 in
set_option maxRecDepth 100000 in
theorem lc_knits (Rel : Option Nat → mh_I → mh_L → mh_I → Prop) (hT : ∀ T I1 L1 I2, Rel T I1 L1 I2 → ∀ t, T = some t → t < 46) (hR : RS_knits Rel) {L0 k : Nat} {xs : Nat → Int32} (hL : L0 ≤ 3584) (hi : k + 7 ≤ L0) {T : Option Nat} {I1 I2 : mh_I} {L1 L2 : mh_L} (hrel : Rel T I1 L1 I2) (kk : ∀ T1 J1 K1 J2, Rel T1 J1 K1 J2 → ml_W L0 xs T1 J1 K1 J2 L2 1806 [(0, .ref 1002), (1, .ref 900), (2, .ref 901), (3, .int (nI k))] []) : ml_W L0 xs T I1 L1 I2 L2 1720 [(0, .ref 1002), (1, .ref 900), (2, .ref 901), (3, .int (nI k))] [] := by
  obtain ⟨q, r, h5, h6, hv, hrel⟩ := hR T I1 L1 I2 (xs (nI k + 1).toNatClampNeg) (xs (nI k + 2).toNatClampNeg) (xs (nI k + 3).toNatClampNeg) (xs (nI k + 4).toNatClampNeg) hrel
  refine ml_aload_n dL_law_1720 1 rfl ?_
  refine ml_aload_n dL_law_1721 0 rfl ?_
  refine ml_iload_n dL_law_1722 3 rfl ?_
  refine ml_iconst (v := 1) dL_law_1723 (by decide) ?_
  refine ml_iadd dL_law_1724 ?_
  refine ml_sld (li_in (j := 1) hL hi (by decide)) dL_law_1725 ?_
  refine ml_aload_n dL_law_1726 0 rfl ?_
  refine ml_iload_n dL_law_1727 3 rfl ?_
  refine ml_iconst (v := 2) dL_law_1728 (by decide) ?_
  refine ml_iadd dL_law_1729 ?_
  refine ml_sld (li_in (j := 2) hL hi (by decide)) dL_law_1730 ?_
  refine ml_aload_n dL_law_1731 0 rfl ?_
  refine ml_iload_n dL_law_1732 3 rfl ?_
  refine ml_iconst (v := 3) dL_law_1733 (by decide) ?_
  refine ml_iadd dL_law_1734 ?_
  refine ml_sld (li_in (j := 3) hL hi (by decide)) dL_law_1735 ?_
  refine ml_aload_n dL_law_1736 0 rfl ?_
  refine ml_iload_n dL_law_1737 3 rfl ?_
  refine ml_iconst (v := 4) dL_law_1738 (by decide) ?_
  refine ml_iadd dL_law_1739 ?_
  refine ml_sld (li_in (j := 4) hL hi (by decide)) dL_law_1740 ?_
  refine ml_callX (dc := 3) (k := 4) (v := .int q.1) (T' := T) cv_L_192 wd_690 rfl wd_693 dL_law_1741 [.int (xs (nI k + 1).toNatClampNeg), .int (xs (nI k + 2).toNatClampNeg), .int (xs (nI k + 3).toNatClampNeg), .int (xs (nI k + 4).toNatClampNeg)] [.int (xs (nI k + 4).toNatClampNeg), .int (xs (nI k + 3).toNatClampNeg), .int (xs (nI k + 2).toNatClampNeg), .int (xs (nI k + 1).toNatClampNeg), .ref 900] rfl rfl (fun f => rfl) (fun f => rfl) (fun f => rfl) (t_X5_knits h5) (fun _ _ _ _ h => h) (fun h => h) ⟨by decide, by decide⟩ (Nat.le_of_ble_eq_true rfl) ?_
  refine ml_aload_n dL_law_1744 2 rfl ?_
  refine ml_aload_n dL_law_1745 0 rfl ?_
  refine ml_iload_n dL_law_1746 3 rfl ?_
  refine ml_iconst (v := 1) dL_law_1747 (by decide) ?_
  refine ml_iadd dL_law_1748 ?_
  refine ml_sld (li_in (j := 1) hL hi (by decide)) dL_law_1749 ?_
  refine ml_aload_n dL_law_1750 0 rfl ?_
  refine ml_iload_n dL_law_1751 3 rfl ?_
  refine ml_iconst (v := 2) dL_law_1752 (by decide) ?_
  refine ml_iadd dL_law_1753 ?_
  refine ml_sld (li_in (j := 2) hL hi (by decide)) dL_law_1754 ?_
  refine ml_aload_n dL_law_1755 0 rfl ?_
  refine ml_iload_n dL_law_1756 3 rfl ?_
  refine ml_iconst (v := 3) dL_law_1757 (by decide) ?_
  refine ml_iadd dL_law_1758 ?_
  refine ml_sld (li_in (j := 3) hL hi (by decide)) dL_law_1759 ?_
  refine ml_aload_n dL_law_1760 0 rfl ?_
  refine ml_iload_n dL_law_1761 3 rfl ?_
  refine ml_iconst (v := 4) dL_law_1762 (by decide) ?_
  refine ml_iadd dL_law_1763 ?_
  refine ml_sld (li_in (j := 4) hL hi (by decide)) dL_law_1764 ?_
  refine ml_callM (dc := 3) (k := 4) (v := .int r.1) cv_L_195 wd_1151 rfl wd_1154 dL_law_1765 [.int (xs (nI k + 1).toNatClampNeg), .int (xs (nI k + 2).toNatClampNeg), .int (xs (nI k + 3).toNatClampNeg), .int (xs (nI k + 4).toNatClampNeg)] [.int (xs (nI k + 4).toNatClampNeg), .int (xs (nI k + 3).toNatClampNeg), .int (xs (nI k + 2).toNatClampNeg), .int (xs (nI k + 1).toNatClampNeg), .ref 901, .int q.1] rfl rfl (fun f => rfl) (fun f => rfl) (fun f => rfl) (t_X6_knits h6) (fun _ _ _ _ h => h) ⟨by decide, by decide⟩ (Nat.le_of_ble_eq_true rfl) ?_
  refine ml_icmp_eq (tgt := 1806) dL_law_1768 (by decide) hv ?_
  exact kk _ _ _ _ hrel
def RS_taken (Rel : Option Nat → mh_I → mh_L → mh_I → Prop) : Prop := ∀ (T : Option Nat) (I1 : mh_I) (L1 : mh_L) (I2 : mh_I) (a1 a2 : Int32), Rel T I1 L1 I2 → ∃ (q : Int32) (r : Int32), X5_taken a1 a2 I1 L1 = some q ∧ X6_taken a1 a2 I2 = some r ∧ q = r ∧ Rel T I1 L1 I2
set_option maxHeartbeats 4000000 in
set_option maxRecDepth 100000 in
theorem lc_taken (Rel : Option Nat → mh_I → mh_L → mh_I → Prop) (hT : ∀ T I1 L1 I2, Rel T I1 L1 I2 → ∀ t, T = some t → t < 46) (hR : RS_taken Rel) {L0 k : Nat} {xs : Nat → Int32} (hL : L0 ≤ 3584) (hi : k + 7 ≤ L0) {T : Option Nat} {I1 I2 : mh_I} {L1 L2 : mh_L} (hrel : Rel T I1 L1 I2) (kk : ∀ T1 J1 K1 J2, Rel T1 J1 K1 J2 → ml_W L0 xs T1 J1 K1 J2 L2 1806 [(0, .ref 1002), (1, .ref 900), (2, .ref 901), (3, .int (nI k))] []) : ml_W L0 xs T I1 L1 I2 L2 1773 [(0, .ref 1002), (1, .ref 900), (2, .ref 901), (3, .int (nI k))] [] := by
  obtain ⟨q, r, h5, h6, hv, hrel⟩ := hR T I1 L1 I2 (xs (nI k + 1).toNatClampNeg) (xs (nI k + 2).toNatClampNeg) hrel
  refine ml_aload_n dL_law_1773 1 rfl ?_
  refine ml_aload_n dL_law_1774 0 rfl ?_
  refine ml_iload_n dL_law_1775 3 rfl ?_
  refine ml_iconst (v := 1) dL_law_1776 (by decide) ?_
  refine ml_iadd dL_law_1777 ?_
  refine ml_sld (li_in (j := 1) hL hi (by decide)) dL_law_1778 ?_
  refine ml_aload_n dL_law_1779 0 rfl ?_
  refine ml_iload_n dL_law_1780 3 rfl ?_
  refine ml_iconst (v := 2) dL_law_1781 (by decide) ?_
  refine ml_iadd dL_law_1782 ?_
  refine ml_sld (li_in (j := 2) hL hi (by decide)) dL_law_1783 ?_
  refine ml_callX (dc := 2) (k := 2) (v := .int q) (T' := T) cv_L_196 wd_695 rfl wd_698 dL_law_1784 [.int (xs (nI k + 1).toNatClampNeg), .int (xs (nI k + 2).toNatClampNeg)] [.int (xs (nI k + 2).toNatClampNeg), .int (xs (nI k + 1).toNatClampNeg), .ref 900] rfl rfl (fun f => rfl) (fun f => rfl) (fun f => rfl) (t_X5_taken h5) (fun _ _ _ _ h => h) (fun h => h) ⟨by decide, by decide⟩ (Nat.le_of_ble_eq_true rfl) ?_
  refine ml_aload_n dL_law_1787 2 rfl ?_
  refine ml_aload_n dL_law_1788 0 rfl ?_
  refine ml_iload_n dL_law_1789 3 rfl ?_
  refine ml_iconst (v := 1) dL_law_1790 (by decide) ?_
  refine ml_iadd dL_law_1791 ?_
  refine ml_sld (li_in (j := 1) hL hi (by decide)) dL_law_1792 ?_
  refine ml_aload_n dL_law_1793 0 rfl ?_
  refine ml_iload_n dL_law_1794 3 rfl ?_
  refine ml_iconst (v := 2) dL_law_1795 (by decide) ?_
  refine ml_iadd dL_law_1796 ?_
  refine ml_sld (li_in (j := 2) hL hi (by decide)) dL_law_1797 ?_
  refine ml_callM (dc := 1) (k := 2) (v := .int r) cv_L_199 wd_1155 rfl wd_1158 dL_law_1798 [.int (xs (nI k + 1).toNatClampNeg), .int (xs (nI k + 2).toNatClampNeg)] [.int (xs (nI k + 2).toNatClampNeg), .int (xs (nI k + 1).toNatClampNeg), .ref 901, .int q] rfl rfl (fun f => rfl) (fun f => rfl) (fun f => rfl) (t_X6_taken h6) (fun _ _ _ _ h => h) ⟨by decide, by decide⟩ (Nat.le_of_ble_eq_true rfl) ?_
  refine ml_icmp_eq (tgt := 1806) dL_law_1801 (by decide) hv ?_
  exact kk _ _ _ _ hrel
def RS_every (Rel : Option Nat → mh_I → mh_L → mh_I → Prop) : Prop := RS_count Rel ∧ RS_feed Rel ∧ RS_text Rel ∧ RS_force Rel ∧ RS_asks Rel ∧ RS_knit Rel ∧ RS_row Rel ∧ RS_told Rel ∧ RS_pin Rel ∧ RS_hangs Rel ∧ RS_loose Rel ∧ RS_back Rel ∧ RS_run Rel ∧ RS_goes Rel ∧ RS_left Rel ∧ RS_most Rel ∧ RS_column Rel ∧ RS_line Rel ∧ RS_reach Rel ∧ RS_two Rel ∧ RS_all Rel ∧ RS_counts Rel ∧ RS_slip Rel ∧ RS_wrong Rel ∧ RS_pinned Rel ∧ RS_mending Rel ∧ RS_mend Rel ∧ RS_block Rel ∧ RS_seen Rel ∧ RS_slack Rel ∧ RS_judge Rel ∧ RS_which Rel ∧ RS_span Rel ∧ RS_laws Rel ∧ RS_film Rel ∧ RS_slips Rel ∧ RS_odds Rel ∧ RS_image Rel ∧ RS_restore Rel ∧ RS_sheet Rel ∧ RS_cell Rel ∧ RS_copy Rel ∧ RS_knits Rel ∧ RS_taken Rel ∧ True
set_option maxHeartbeats 8000000 in
set_option maxRecDepth 100000 in
theorem lc_switch (Rel : Option Nat → mh_I → mh_L → mh_I → Prop) (hT : ∀ T I1 L1 I2, Rel T I1 L1 I2 → ∀ t, T = some t → t < 46) (hall : RS_every Rel) {L0 k : Nat} {xs : Nat → Int32} (hL : L0 ≤ 3584) (hi : k + 7 ≤ L0) {T : Option Nat} {I1 I2 : mh_I} {L1 L2 : mh_L} (hrel : Rel T I1 L1 I2) (kk : ∀ T1 J1 K1 J2, Rel T1 J1 K1 J2 → ml_W L0 xs T1 J1 K1 J2 L2 1806 [(0, .ref 1002), (1, .ref 900), (2, .ref 901), (3, .int (nI k))] []) : ml_W L0 xs T I1 L1 I2 L2 27 [(0, .ref 1002), (1, .ref 900), (2, .ref 901), (3, .int (nI k))] [] := by
  obtain ⟨h0, h1, h2, h3, h4, h5, h6, h7, h8, h9, h10, h11, h12, h13, h14, h15, h16, h17, h18, h19, h20, h21, h22, h23, h24, h25, h26, h27, h28, h29, h30, h31, h32, h33, h34, h35, h36, h37, h38, h39, h40, h41, h42, h43, -⟩ := hall
  refine ml_aload_n dL_law_27 0 rfl ?_
  refine ml_iload_n dL_law_28 3 rfl ?_
  refine ml_sld (li_in0 hL hi) dL_law_29 ?_
  refine ml_bipush (v := 63) dL_law_30 (by decide) ?_
  refine ml_iand dL_law_32 ?_
  generalize xs (nI k).toNatClampNeg &&& 63 = x
  by_cases c0 : x = 0
  · refine ml_tableIn (off := 191) (tgt := 224) dL_law_33 (by rw [c0]; decide) (by rw [c0]; decide) (by rw [c0]; rfl) (by decide) ?_
    exact lc_count Rel hT h0 hL hi hrel kk
  by_cases c1 : x = 1
  · refine ml_tableIn (off := 214) (tgt := 247) dL_law_33 (by rw [c1]; decide) (by rw [c1]; decide) (by rw [c1]; rfl) (by decide) ?_
    exact lc_feed Rel hT h1 hL hi hrel kk
  by_cases c2 : x = 2
  · refine ml_tableIn (off := 289) (tgt := 322) dL_law_33 (by rw [c2]; decide) (by rw [c2]; decide) (by rw [c2]; rfl) (by decide) ?_
    exact lc_text Rel hT h2 hL hi hrel kk
  by_cases c3 : x = 3
  · refine ml_tableIn (off := 302) (tgt := 335) dL_law_33 (by rw [c3]; decide) (by rw [c3]; decide) (by rw [c3]; rfl) (by decide) ?_
    exact lc_force Rel hT h3 hL hi hrel kk
  by_cases c4 : x = 4
  · refine ml_tableIn (off := 325) (tgt := 358) dL_law_33 (by rw [c4]; decide) (by rw [c4]; decide) (by rw [c4]; rfl) (by decide) ?_
    exact lc_asks Rel hT h4 hL hi hrel kk
  by_cases c5 : x = 5
  · refine ml_tableIn (off := 368) (tgt := 401) dL_law_33 (by rw [c5]; decide) (by rw [c5]; decide) (by rw [c5]; rfl) (by decide) ?_
    exact lc_knit Rel hT h5 hL hi hrel kk
  by_cases c6 : x = 6
  · refine ml_tableIn (off := 411) (tgt := 444) dL_law_33 (by rw [c6]; decide) (by rw [c6]; decide) (by rw [c6]; rfl) (by decide) ?_
    exact lc_row Rel hT h6 hL hi hrel kk
  by_cases c7 : x = 7
  · refine ml_tableIn (off := 454) (tgt := 487) dL_law_33 (by rw [c7]; decide) (by rw [c7]; decide) (by rw [c7]; rfl) (by decide) ?_
    exact lc_told Rel hT h7 hL hi hrel kk
  by_cases c8 : x = 8
  · refine ml_tableIn (off := 487) (tgt := 520) dL_law_33 (by rw [c8]; decide) (by rw [c8]; decide) (by rw [c8]; rfl) (by decide) ?_
    exact lc_pin Rel hT h8 hL hi hrel kk
  by_cases c9 : x = 9
  · refine ml_tableIn (off := 520) (tgt := 553) dL_law_33 (by rw [c9]; decide) (by rw [c9]; decide) (by rw [c9]; rfl) (by decide) ?_
    exact lc_hangs Rel hT h9 hL hi hrel kk
  by_cases c10 : x = 10
  · refine ml_tableIn (off := 554) (tgt := 587) dL_law_33 (by rw [c10]; decide) (by rw [c10]; decide) (by rw [c10]; rfl) (by decide) ?_
    exact lc_loose Rel hT h10 hL hi hrel kk
  by_cases c11 : x = 11
  · refine ml_tableIn (off := 568) (tgt := 601) dL_law_33 (by rw [c11]; decide) (by rw [c11]; decide) (by rw [c11]; rfl) (by decide) ?_
    exact lc_back Rel hT h11 hL hi hrel kk
  by_cases c12 : x = 12
  · refine ml_tableIn (off := 591) (tgt := 624) dL_law_33 (by rw [c12]; decide) (by rw [c12]; decide) (by rw [c12]; rfl) (by decide) ?_
    exact lc_run Rel hT h12 hL hi hrel kk
  by_cases c13 : x = 13
  · refine ml_tableIn (off := 634) (tgt := 667) dL_law_33 (by rw [c13]; decide) (by rw [c13]; decide) (by rw [c13]; rfl) (by decide) ?_
    exact lc_goes Rel hT h13 hL hi hrel kk
  by_cases c14 : x = 14
  · refine ml_tableIn (off := 678) (tgt := 711) dL_law_33 (by rw [c14]; decide) (by rw [c14]; decide) (by rw [c14]; rfl) (by decide) ?_
    exact lc_left Rel hT h14 hL hi hrel kk
  by_cases c15 : x = 15
  · refine ml_tableIn (off := 721) (tgt := 754) dL_law_33 (by rw [c15]; decide) (by rw [c15]; decide) (by rw [c15]; rfl) (by decide) ?_
    exact lc_most Rel hT h15 hL hi hrel kk
  by_cases c16 : x = 16
  · refine ml_tableIn (off := 754) (tgt := 787) dL_law_33 (by rw [c16]; decide) (by rw [c16]; decide) (by rw [c16]; rfl) (by decide) ?_
    exact lc_column Rel hT h16 hL hi hrel kk
  by_cases c17 : x = 17
  · refine ml_tableIn (off := 797) (tgt := 830) dL_law_33 (by rw [c17]; decide) (by rw [c17]; decide) (by rw [c17]; rfl) (by decide) ?_
    exact lc_line Rel hT h17 hL hi hrel kk
  by_cases c18 : x = 18
  · refine ml_tableIn (off := 830) (tgt := 863) dL_law_33 (by rw [c18]; decide) (by rw [c18]; decide) (by rw [c18]; rfl) (by decide) ?_
    exact lc_reach Rel hT h18 hL hi hrel kk
  by_cases c19 : x = 19
  · refine ml_tableIn (off := 863) (tgt := 896) dL_law_33 (by rw [c19]; decide) (by rw [c19]; decide) (by rw [c19]; rfl) (by decide) ?_
    exact lc_two Rel hT h19 hL hi hrel kk
  by_cases c20 : x = 20
  · refine ml_tableIn (off := 896) (tgt := 929) dL_law_33 (by rw [c20]; decide) (by rw [c20]; decide) (by rw [c20]; rfl) (by decide) ?_
    exact lc_all Rel hT h20 hL hi hrel kk
  by_cases c21 : x = 21
  · refine ml_tableIn (off := 919) (tgt := 952) dL_law_33 (by rw [c21]; decide) (by rw [c21]; decide) (by rw [c21]; rfl) (by decide) ?_
    exact lc_counts Rel hT h21 hL hi hrel kk
  by_cases c22 : x = 22
  · refine ml_tableIn (off := 952) (tgt := 985) dL_law_33 (by rw [c22]; decide) (by rw [c22]; decide) (by rw [c22]; rfl) (by decide) ?_
    exact lc_slip Rel hT h22 hL hi hrel kk
  by_cases c23 : x = 23
  · refine ml_tableIn (off := 975) (tgt := 1008) dL_law_33 (by rw [c23]; decide) (by rw [c23]; decide) (by rw [c23]; rfl) (by decide) ?_
    exact lc_wrong Rel hT h23 hL hi hrel kk
  by_cases c24 : x = 24
  · refine ml_tableIn (off := 988) (tgt := 1021) dL_law_33 (by rw [c24]; decide) (by rw [c24]; decide) (by rw [c24]; rfl) (by decide) ?_
    exact lc_pinned Rel hT h24 hL hi hrel kk
  by_cases c25 : x = 25
  · refine ml_tableIn (off := 1041) (tgt := 1074) dL_law_33 (by rw [c25]; decide) (by rw [c25]; decide) (by rw [c25]; rfl) (by decide) ?_
    exact lc_mending Rel hT h25 hL hi hrel kk
  by_cases c26 : x = 26
  · refine ml_tableIn (off := 1084) (tgt := 1117) dL_law_33 (by rw [c26]; decide) (by rw [c26]; decide) (by rw [c26]; rfl) (by decide) ?_
    exact lc_mend Rel hT h26 hL hi hrel kk
  by_cases c27 : x = 27
  · refine ml_tableIn (off := 1117) (tgt := 1150) dL_law_33 (by rw [c27]; decide) (by rw [c27]; decide) (by rw [c27]; rfl) (by decide) ?_
    exact lc_block Rel hT h27 hL hi hrel kk
  by_cases c28 : x = 28
  · refine ml_tableIn (off := 1130) (tgt := 1163) dL_law_33 (by rw [c28]; decide) (by rw [c28]; decide) (by rw [c28]; rfl) (by decide) ?_
    exact lc_seen Rel hT h28 hL hi hrel kk
  by_cases c29 : x = 29
  · refine ml_tableIn (off := 1144) (tgt := 1177) dL_law_33 (by rw [c29]; decide) (by rw [c29]; decide) (by rw [c29]; rfl) (by decide) ?_
    exact lc_slack Rel hT h29 hL hi hrel kk
  by_cases c30 : x = 30
  · refine ml_tableIn (off := 1177) (tgt := 1210) dL_law_33 (by rw [c30]; decide) (by rw [c30]; decide) (by rw [c30]; rfl) (by decide) ?_
    exact lc_judge Rel hT h30 hL hi hrel kk
  by_cases c31 : x = 31
  · refine ml_tableIn (off := 1220) (tgt := 1253) dL_law_33 (by rw [c31]; decide) (by rw [c31]; decide) (by rw [c31]; rfl) (by decide) ?_
    exact lc_which Rel hT h31 hL hi hrel kk
  by_cases c32 : x = 32
  · refine ml_tableIn (off := 1254) (tgt := 1287) dL_law_33 (by rw [c32]; decide) (by rw [c32]; decide) (by rw [c32]; rfl) (by decide) ?_
    exact lc_span Rel hT h32 hL hi hrel kk
  by_cases c33 : x = 33
  · refine ml_tableIn (off := 1297) (tgt := 1330) dL_law_33 (by rw [c33]; decide) (by rw [c33]; decide) (by rw [c33]; rfl) (by decide) ?_
    exact lc_laws Rel hT h33 hL hi hrel kk
  by_cases c34 : x = 34
  · refine ml_tableIn (off := 1340) (tgt := 1373) dL_law_33 (by rw [c34]; decide) (by rw [c34]; decide) (by rw [c34]; rfl) (by decide) ?_
    exact lc_film Rel hT h34 hL hi hrel kk
  by_cases c35 : x = 35
  · refine ml_tableIn (off := 1383) (tgt := 1416) dL_law_33 (by rw [c35]; decide) (by rw [c35]; decide) (by rw [c35]; rfl) (by decide) ?_
    exact lc_slips Rel hT h35 hL hi hrel kk
  by_cases c36 : x = 36
  · refine ml_tableIn (off := 1436) (tgt := 1469) dL_law_33 (by rw [c36]; decide) (by rw [c36]; decide) (by rw [c36]; rfl) (by decide) ?_
    exact lc_odds Rel hT h36 hL hi hrel kk
  by_cases c37 : x = 37
  · refine ml_tableIn (off := 1512) (tgt := 1545) dL_law_33 (by rw [c37]; decide) (by rw [c37]; decide) (by rw [c37]; rfl) (by decide) ?_
    exact lc_image Rel hT h37 hL hi hrel kk
  by_cases c38 : x = 38
  · refine ml_tableIn (off := 1525) (tgt := 1558) dL_law_33 (by rw [c38]; decide) (by rw [c38]; decide) (by rw [c38]; rfl) (by decide) ?_
    exact lc_restore Rel hT h38 hL hi hrel kk
  by_cases c39 : x = 39
  · refine ml_tableIn (off := 1538) (tgt := 1571) dL_law_33 (by rw [c39]; decide) (by rw [c39]; decide) (by rw [c39]; rfl) (by decide) ?_
    exact lc_sheet Rel hT h39 hL hi hrel kk
  by_cases c40 : x = 40
  · refine ml_tableIn (off := 1581) (tgt := 1614) dL_law_33 (by rw [c40]; decide) (by rw [c40]; decide) (by rw [c40]; rfl) (by decide) ?_
    exact lc_cell Rel hT h40 hL hi hrel kk
  by_cases c41 : x = 41
  · refine ml_tableIn (off := 1624) (tgt := 1657) dL_law_33 (by rw [c41]; decide) (by rw [c41]; decide) (by rw [c41]; rfl) (by decide) ?_
    exact lc_copy Rel hT h41 hL hi hrel kk
  by_cases c42 : x = 42
  · refine ml_tableIn (off := 1687) (tgt := 1720) dL_law_33 (by rw [c42]; decide) (by rw [c42]; decide) (by rw [c42]; rfl) (by decide) ?_
    exact lc_knits Rel hT h42 hL hi hrel kk
  by_cases c43 : x = 43
  · refine ml_tableIn (off := 1740) (tgt := 1773) dL_law_33 (by rw [c43]; decide) (by rw [c43]; decide) (by rw [c43]; rfl) (by decide) ?_
    exact lc_taken Rel hT h43 hL hi hrel kk
  refine ml_tableOut (tgt := 1806) dL_law_33 (by have e0 := mh_ne (n := 0) c0 (by decide); have e1 := mh_ne (n := 1) c1 (by decide); have e2 := mh_ne (n := 2) c2 (by decide); have e3 := mh_ne (n := 3) c3 (by decide); have e4 := mh_ne (n := 4) c4 (by decide); have e5 := mh_ne (n := 5) c5 (by decide); have e6 := mh_ne (n := 6) c6 (by decide); have e7 := mh_ne (n := 7) c7 (by decide); have e8 := mh_ne (n := 8) c8 (by decide); have e9 := mh_ne (n := 9) c9 (by decide); have e10 := mh_ne (n := 10) c10 (by decide); have e11 := mh_ne (n := 11) c11 (by decide); have e12 := mh_ne (n := 12) c12 (by decide); have e13 := mh_ne (n := 13) c13 (by decide); have e14 := mh_ne (n := 14) c14 (by decide); have e15 := mh_ne (n := 15) c15 (by decide); have e16 := mh_ne (n := 16) c16 (by decide); have e17 := mh_ne (n := 17) c17 (by decide); have e18 := mh_ne (n := 18) c18 (by decide); have e19 := mh_ne (n := 19) c19 (by decide); have e20 := mh_ne (n := 20) c20 (by decide); have e21 := mh_ne (n := 21) c21 (by decide); have e22 := mh_ne (n := 22) c22 (by decide); have e23 := mh_ne (n := 23) c23 (by decide); have e24 := mh_ne (n := 24) c24 (by decide); have e25 := mh_ne (n := 25) c25 (by decide); have e26 := mh_ne (n := 26) c26 (by decide); have e27 := mh_ne (n := 27) c27 (by decide); have e28 := mh_ne (n := 28) c28 (by decide); have e29 := mh_ne (n := 29) c29 (by decide); have e30 := mh_ne (n := 30) c30 (by decide); have e31 := mh_ne (n := 31) c31 (by decide); have e32 := mh_ne (n := 32) c32 (by decide); have e33 := mh_ne (n := 33) c33 (by decide); have e34 := mh_ne (n := 34) c34 (by decide); have e35 := mh_ne (n := 35) c35 (by decide); have e36 := mh_ne (n := 36) c36 (by decide); have e37 := mh_ne (n := 37) c37 (by decide); have e38 := mh_ne (n := 38) c38 (by decide); have e39 := mh_ne (n := 39) c39 (by decide); have e40 := mh_ne (n := 40) c40 (by decide); have e41 := mh_ne (n := 41) c41 (by decide); have e42 := mh_ne (n := 42) c42 (by decide); have e43 := mh_ne (n := 43) c43 (by decide); omega) (by decide) ?_
  exact kk _ _ _ _ hrel
set_option maxHeartbeats 4000000 in
set_option maxRecDepth 100000 in
theorem lc_loop (Rel : Option Nat → mh_I → mh_L → mh_I → Prop) (hT : ∀ T I1 L1 I2, Rel T I1 L1 I2 → ∀ t, T = some t → t < 46) (hall : RS_every Rel) {L0 : Nat} {xs : Nat → Int32} (hL : L0 ≤ 3584) {L2 : mh_L} : ∀ (n k : Nat) (T : Option Nat) (I1 : mh_I) (L1 : mh_L) (I2 : mh_I), L0 + 7 ≤ k + n → k ≤ L0 + 7 → Rel T I1 L1 I2 → ml_W L0 xs T I1 L1 I2 L2 18 [(0, .ref 1002), (1, .ref 900), (2, .ref 901), (3, .int (nI k))] [] := by
  intro n
  induction n with
  | zero =>
    intro k T I1 L1 I2 hn hk hrel
    refine ml_iload_n dL_law_18 3 rfl ?_
    refine ml_aload_n dL_law_19 0 rfl ?_
    refine ml_slen dL_law_20 ?_
    refine ml_bipush (v := 7) dL_law_21 (by decide) ?_
    refine ml_isub dL_law_23 ?_
    refine ml_icmp_gt (tgt := 1812) dL_law_24 (by decide) (fun _ => ?_) (fun h => absurd (li_ok hL (by omega) h) (by omega))
    refine ml_iconst (v := 1) dL_law_1812 (by decide) ?_
    exact ml_ret dL_law_1813
  | succ n ih =>
    intro k T I1 L1 I2 hn hk hrel
    refine ml_iload_n dL_law_18 3 rfl ?_
    refine ml_aload_n dL_law_19 0 rfl ?_
    refine ml_slen dL_law_20 ?_
    refine ml_bipush (v := 7) dL_law_21 (by decide) ?_
    refine ml_isub dL_law_23 ?_
    refine ml_icmp_gt (tgt := 1812) dL_law_24 (by decide) (fun _ => ?_) (fun h => ?_)
    · refine ml_iconst (v := 1) dL_law_1812 (by decide) ?_
      exact ml_ret dL_law_1813
    · have hi := li_ok hL (by omega) h
      refine lc_switch Rel hT hall hL hi hrel (fun T1 J1 K1 J2 hrel1 => ?_)
      refine ml_iinc (v := nI (k + 7)) dL_law_1806 3 rfl (nI_add k 7) (by decide) rfl ?_
      refine ml_goto (tgt := 18) dL_law_1809 (by decide) ?_
      refine ml_loc [1, 2, 3, 0] rfl ?_
      exact ih (k + 7) T1 J1 K1 J2 (by omega) (by omega) hrel1
