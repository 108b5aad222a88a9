set_option maxRecDepth 100000 in
set_option maxHeartbeats 4000000 in
theorem law_P3b {p : Program} {l : Launch} {e : Env} {s : State} {m : MethodId} {below : List Frame} {meth : Method} {c : Code} {b L : Nat} {xs : Nat → Int32} {G : Ge} (X : CallFix p m c cL_law 14 s #[Value.ref b] TB "NameSeekerLaw") (hr : meth.sig.returnType = ret) (hlk : meth.locks = false) (hE : XS b L xs s) (hL : L ≤ 260) (hbA : ¬ aS s b)  {S : St} (T Y V HD PK : Int → Int) (y : Int) (nn k_ : Nat) (hA : AR T Y V HD S) (hT : TOK T Y) (hy : 0 ≤ y ∧ y < 2147483648) (hkn : k_ ≤ nn) (hnn : nn ≤ 6) (hw : WA V y k_) (hd : ∀ j_ : Nat, j_ < k_ → HD j_ = psb (PSs T Y (VW y j_)) (T 0).toNat ∧ HD (8 + (j_ : Int)) = psb (fun y_ => ¬ SC T Y (VW y j_) y_ = -4) (T 0).toNat) (hP : POK T PK 3) (hI : LI T Y V PK 6 2 3 0 (126 * (k_ : Int)) S) (nx : ∀ (U : St) (HD : Int → Int), AR T Y V HD U → LI T Y V PK 6 2 3 0 (126 * (k_ : Int) + 126) U → (∀ j_ : Nat, j_ < k_ + 1 → HD j_ = psb (PSs T Y (VW y j_)) (T 0).toNat ∧ HD (8 + (j_ : Int)) = psb (fun y_ => ¬ SC T Y (VW y j_) y_ = -4) (T 0).toNat) → ∀ (H : Heap) (locs : List Loc), In (KL (aS s) G) s s.heap H locs U → ∀ ls : Array Slot, lv_has ls 14 [(0, .ref b), (1, .ref (G.2.2 0)), (2, .ref (G.2.2 57)), (3, .ref (G.2.2 58)), (4, .ref (G.2.2 59)), (5, .ref (G.2.2 60)), (6, .int (iI 1)), (7, .int (iI y)), (8, .int (iI ((nn : Nat) : Int))), (9, .int (iI ((k_ + 1 : Nat) : Int)))] → LG_ p l e s m below meth c b H locs (F0 m 158 ls [])) {H : Heap} {locs : List Loc} (I : In (KL (aS s) G) s s.heap H locs S) {ls : Array Slot} (hl : lv_has ls 14 [(0, .ref b), (1, .ref (G.2.2 0)), (2, .ref (G.2.2 57)), (3, .ref (G.2.2 58)), (4, .ref (G.2.2 59)), (5, .ref (G.2.2 60)), (6, .int (iI 1)), (7, .int (iI y)), (8, .int (iI ((nn : Nat) : Int))), (9, .int (iI ((k_ : Nat) : Int)))]) : LG_ p l e s m below meth c b H locs (F0 m 220 ls []) := by
  have hT0 := hT.1
  have hV := WA_ok (by omega) hw
  refine lv_iload X.1 X.2.1 dL_law_220 (lv_at hl 6 rfl) ?_
  refine rz_eq (tgt := 248) X (by omega) dL_law_222 (by decide) (fun c1 => by exfalso; omega) (fun c1 => ?_)
  refine lv_aload_n X.1 X.2.1 dL_law_225 rfl (lv_at hl 1 rfl) ?_
  refine lv_aload_n X.1 X.2.1 dL_law_226 rfl (lv_at hl 2 rfl) ?_
  refine lv_aload_n X.1 X.2.1 dL_law_227 rfl (lv_at hl 3 rfl) ?_
  refine lv_aload X.1 X.2.1 dL_law_228 (lv_at hl 4 rfl) ?_
  refine cl_i I (runS (As := [.ref (G.2.2 0), .ref (G.2.2 57), .ref (G.2.2 58), .ref (G.2.2 59)]) (rest := []) X (k_L_each l (aS s) G S T Y V HD PK 6 2 3 0 (126 * (k_ : Int)) hA hT hV hI (by omega)) (gdC tb_537 gdB) tb_535 tb_536 tb_13 ⟨ok_L_each, ⟨Nat.le_of_ble_eq_true rfl, Nat.le_of_ble_eq_true rfl⟩, rfl, rfl⟩ (PreS.of I) rfl hl.1 rfl (Nat.le_of_ble_eq_true rfl) dL_law_230 ⟨Nat.le_of_ble_eq_true rfl, Nat.le_of_ble_eq_true rfl⟩) (fun r2 S3 H locs q4 I => ?_)
  obtain ⟨e_, hI, hA⟩ := q4
  subst e_
  refine rz_eq (tgt := 248) X (by omega) dL_law_233 (by decide) (fun c5 => by exfalso; omega) (fun c5 => ?_)
  refine lv_aload_n X.1 X.2.1 dL_law_236 rfl (lv_at hl 1 rfl) ?_
  refine lv_aload_n X.1 X.2.1 dL_law_237 rfl (lv_at hl 2 rfl) ?_
  refine cl_i I (runS (As := [.ref (G.2.2 0), .ref (G.2.2 57)]) (rest := []) X (k_L_ordered l (aS s) G S3 T Y V HD PK 6 2 3 0 (126 * (k_ : Int) + 16) hA hT hV hI hP (by omega) (by omega)) (gdC tb_608 gdB) tb_606 tb_607 tb_13 ⟨ok_L_ordered, ⟨Nat.le_of_ble_eq_true rfl, Nat.le_of_ble_eq_true rfl⟩, rfl, rfl⟩ (PreS.of I) rfl hl.1 rfl (Nat.le_of_ble_eq_true rfl) dL_law_238 ⟨Nat.le_of_ble_eq_true rfl, Nat.le_of_ble_eq_true rfl⟩) (fun r6 S7 H locs q8 I => ?_)
  obtain ⟨e_, hI, hA⟩ := q8
  subst e_
  refine rz_eq (tgt := 248) X (by omega) dL_law_241 (by decide) (fun c9 => by exfalso; omega) (fun c9 => ?_)
  refine ri_const X (v := 1) dL_law_244 ?_
  refine lv_goto (tgt := 249) X.1 X.2.1 dL_law_245 (by decide) ?_
  refine lv_istore (lv' := [(6, .int (iI 1)), (0, .ref b), (1, .ref (G.2.2 0)), (2, .ref (G.2.2 57)), (3, .ref (G.2.2 58)), (4, .ref (G.2.2 59)), (5, .ref (G.2.2 60)), (7, .int (iI y)), (8, .int (iI ((nn : Nat) : Int))), (9, .int (iI ((k_ : Nat) : Int)))]) X.1 X.2.1 dL_law_249 hl (by decide) rfl (fun ls hl => ?_)
  refine lv_aload X.1 X.2.1 dL_law_251 (lv_at hl 6 rfl) ?_
  refine lv_iload X.1 X.2.1 dL_law_253 (lv_at hl 9 rfl) ?_
  refine lv_aload_n X.1 X.2.1 dL_law_255 rfl (lv_at hl 2 rfl) ?_
  refine ri_const X (v := 0) dL_law_256 ?_
  refine clx_i I (runV (As := [.int (iI 0)]) (rest := [.int (iI ((k_ : Nat) : Int)), .ref (G.2.2 60)]) X (k_X9_passes l G S7 0 (by omega) 600 hI.1) (gdC tb_449 (gdC tb_450 (gdC tb_451 (gdC tb_14 (gdC tb_452 gdB))))) ⟨ok_X9_passes, ⟨Nat.le_of_ble_eq_true rfl, Nat.le_of_ble_eq_true rfl⟩, rfl, rfl⟩ (PreV.ofL I) rfl hl.1 rfl (Nat.le_of_ble_eq_true rfl) dL_law_257 ⟨Nat.le_of_ble_eq_true rfl, Nat.le_of_ble_eq_true rfl⟩) (fun _ _ q_ => f7_passes q_) (fun r10 S11 H locs q12 I => ?_)
  have hA := AR_fr (f7_passes q12) hA
  obtain ⟨e_, hI, -, -⟩ := op_passes0 hV hI (by omega) q12
  rw [psP_VW (by omega) hw] at e_
  have pr13 := psb_r (PSs T Y (VW y k_)) (T 0).toNat (by omega)
  subst e_
  try clear q12
  refine qL_lhad X I (by omega) dL_law_260 (fun H locs I => ?_)
  obtain ⟨S14, hS14⟩ : ∃ u_ : St, u_ = (ua S11.1 73 ((k_ : Nat) : Int) (psb (PSs T Y (VW y k_)) (T 0).toNat), S11.2) := ⟨_, rfl⟩
  rw [← hS14] at I
  have hA := AR_lhad (z := ((k_ : Nat) : Int)) (v := (psb (PSs T Y (VW y k_)) (T 0).toNat)) hA hS14
  have hI := LI_ar (by decide) (by omega) hI hS14
  refine lv_aload X.1 X.2.1 dL_law_261 (lv_at hl 6 rfl) ?_
  refine ri_push X (v := 8) (by decide) dL_law_263 ?_
  refine lv_iload X.1 X.2.1 dL_law_265 (lv_at hl 9 rfl) ?_
  refine ri_add X (v := (8 + ((k_ : Nat) : Int))) rfl dL_law_267 ?_
  refine lv_aload_n X.1 X.2.1 dL_law_268 rfl (lv_at hl 2 rfl) ?_
  refine ri_const X (v := 1) dL_law_269 ?_
  refine clx_i I (runV (As := [.int (iI 1)]) (rest := [.int (iI (8 + ((k_ : Nat) : Int))), .ref (G.2.2 60)]) X (k_X9_passes l G S14 1 (by omega) 600 hI.1) (gdC tb_449 (gdC tb_450 (gdC tb_451 (gdC tb_14 (gdC tb_452 gdB))))) ⟨ok_X9_passes, ⟨Nat.le_of_ble_eq_true rfl, Nat.le_of_ble_eq_true rfl⟩, rfl, rfl⟩ (PreV.ofL I) rfl hl.1 rfl (Nat.le_of_ble_eq_true rfl) dL_law_270 ⟨Nat.le_of_ble_eq_true rfl, Nat.le_of_ble_eq_true rfl⟩) (fun _ _ q_ => f7_passes q_) (fun r15 S16 H locs q17 I => ?_)
  have hA := AR_fr (f7_passes q17) hA
  obtain ⟨e_, hI, -, -⟩ := op_passes1 hT hV hI (by omega) q17
  rw [psS_VW hT (by omega) hw _ (by omega)] at e_
  have pr18 := psb_r (fun y_ => ¬ SC T Y (VW y k_) y_ = -4) (T 0).toNat (by omega)
  subst e_
  try clear q17
  refine qL_lhad X I (by omega) dL_law_273 (fun H locs I => ?_)
  obtain ⟨S19, hS19⟩ : ∃ u_ : St, u_ = (ua S16.1 73 (8 + ((k_ : Nat) : Int)) (psb (fun y_ => ¬ SC T Y (VW y k_) y_ = -4) (T 0).toNat), S16.2) := ⟨_, rfl⟩
  rw [← hS19] at I
  have hA := AR_lhad (z := (8 + ((k_ : Nat) : Int))) (v := (psb (fun y_ => ¬ SC T Y (VW y k_) y_ = -4) (T 0).toNat)) hA hS19
  have hI := LI_ar (by decide) (by omega) hI hS19
  have hdn : ∀ j_ : Nat, j_ < k_ + 1 → (uf (uf HD ((k_ : Nat) : Int) (psb (PSs T Y (VW y k_)) (T 0).toNat)) (8 + ((k_ : Nat) : Int)) (psb (fun y_ => ¬ SC T Y (VW y k_) y_ = -4) (T 0).toNat)) j_ = psb (PSs T Y (VW y j_)) (T 0).toNat ∧ (uf (uf HD ((k_ : Nat) : Int) (psb (PSs T Y (VW y k_)) (T 0).toNat)) (8 + ((k_ : Nat) : Int)) (psb (fun y_ => ¬ SC T Y (VW y k_) y_ = -4) (T 0).toNat)) (8 + (j_ : Int)) = psb (fun y_ => ¬ SC T Y (VW y j_) y_ = -4) (T 0).toNat := fun j_ hj_ => by
    rcases Nat.lt_or_ge j_ k_ with z_ | z_
    · rw [uf_ne (by omega), uf_ne (by omega), uf_ne (by omega), uf_ne (by omega)]; exact hd j_ z_
    · obtain rfl : j_ = k_ := by omega
      rw [uf_ne (by omega), uf_eq, uf_eq]; exact ⟨rfl, rfl⟩
  refine lv_iload X.1 X.2.1 dL_law_274 (lv_at hl 0 rfl) ?_
  refine rz_eq (tgt := 358) X (by omega) dL_law_276 (by decide) (fun c20 => by exfalso; omega) (fun c20 => ?_)
  refine lv_iload X.1 X.2.1 dL_law_279 (lv_at hl 9 rfl) ?_
  refine rz_ne (tgt := 314) X (by omega) dL_law_281 (by decide) (fun c21 => ?_) (fun c21 => ?_)
  · skip
    obtain ⟨ha1_, ha2_⟩ := hdn k_ (by omega)
    obtain ⟨hb1_, hb2_⟩ := hdn (k_ - 1) (by omega)
    rw [show ((k_ - 1 : Nat) : Int) = (k_ : Int) - 1 by omega] at hb1_ hb2_
    have hr1_ := psb_r (PSs T Y (VW y ((k_ : Int) - 1))) (T 0).toNat (by omega)
    have hr2_ := psb_r (fun y_ => ¬ SC T Y (VW y ((k_ : Int) - 1)) y_ = -4) (T 0).toNat (by omega)
    have hz1_ : bandn ((uf (uf HD ((k_ : Nat) : Int) (psb (PSs T Y (VW y k_)) (T 0).toNat)) (8 + ((k_ : Nat) : Int)) (psb (fun y_ => ¬ SC T Y (VW y k_) y_ = -4) (T 0).toNat)) ((k_ : Nat) : Int)) ((uf (uf HD ((k_ : Nat) : Int) (psb (PSs T Y (VW y k_)) (T 0).toNat)) (8 + ((k_ : Nat) : Int)) (psb (fun y_ => ¬ SC T Y (VW y k_) y_ = -4) (T 0).toNat)) (((k_ : Nat) : Int) - 1)) = 0 := by
      rw [ha1_, hb1_]
      exact psb_sub (fun i_ _ _ z_ => PS_mono (by omega) (by rw [show (k_ : Int) - 1 + 1 = k_ by omega]; exact z_))
    have hq2_ : 7 + ((k_ : Nat) : Int) = 8 + ((k_ : Int) - 1) := by omega
    have hz2_ : bandn ((uf (uf HD ((k_ : Nat) : Int) (psb (PSs T Y (VW y k_)) (T 0).toNat)) (8 + ((k_ : Nat) : Int)) (psb (fun y_ => ¬ SC T Y (VW y k_) y_ = -4) (T 0).toNat)) (8 + ((k_ : Nat) : Int))) ((uf (uf HD ((k_ : Nat) : Int) (psb (PSs T Y (VW y k_)) (T 0).toNat)) (8 + ((k_ : Nat) : Int)) (psb (fun y_ => ¬ SC T Y (VW y k_) y_ = -4) (T 0).toNat)) (7 + ((k_ : Nat) : Int))) = 0 := by
      rw [hq2_, ha2_, hb2_]
      exact psb_sub (fun i_ a_ b_ z_ => SC_mono hT (by omega) ⟨a_, by omega⟩ (by rw [show (k_ : Int) - 1 + 1 = k_ by omega]; exact z_))
    rw [← hq2_] at hb2_
    refine lv_aload X.1 X.2.1 dL_law_314 (lv_at hl 6 rfl) ?_
    refine lv_iload X.1 X.2.1 dL_law_316 (lv_at hl 9 rfl) ?_
    refine aL_lhad X I (v := ((uf (uf HD ((k_ : Nat) : Int) (psb (PSs T Y (VW y k_)) (T 0).toNat)) (8 + ((k_ : Nat) : Int)) (psb (fun y_ => ¬ SC T Y (VW y k_) y_ = -4) (T 0).toNat)) ((k_ : Nat) : Int))) (hA.2.2.2 ((k_ : Nat) : Int)) (by omega) dL_law_318 ?_
    refine lv_aload X.1 X.2.1 dL_law_319 (lv_at hl 6 rfl) ?_
    refine lv_iload X.1 X.2.1 dL_law_321 (lv_at hl 9 rfl) ?_
    refine ri_const X (v := 1) dL_law_323 ?_
    refine ri_sub X (v := (((k_ : Nat) : Int) - 1)) rfl dL_law_324 ?_
    refine aL_lhad X I (v := ((uf (uf HD ((k_ : Nat) : Int) (psb (PSs T Y (VW y k_)) (T 0).toNat)) (8 + ((k_ : Nat) : Int)) (psb (fun y_ => ¬ SC T Y (VW y k_) y_ = -4) (T 0).toNat)) (((k_ : Nat) : Int) - 1))) (hA.2.2.2 (((k_ : Nat) : Int) - 1)) (by omega) dL_law_325 ?_
    refine ri_andnot X (by rw [ha1_]; omega) (by rw [hb1_]; omega) dL_law_326 dL_law_327 dL_law_328 ?_
    refine rz_ne (tgt := 358) X (by rw [hz1_]; decide) dL_law_329 (by decide) (fun c22 => by exfalso; omega) (fun c22 => ?_)
    refine lv_aload X.1 X.2.1 dL_law_332 (lv_at hl 6 rfl) ?_
    refine ri_push X (v := 8) (by decide) dL_law_334 ?_
    refine lv_iload X.1 X.2.1 dL_law_336 (lv_at hl 9 rfl) ?_
    refine ri_add X (v := (8 + ((k_ : Nat) : Int))) rfl dL_law_338 ?_
    refine aL_lhad X I (v := ((uf (uf HD ((k_ : Nat) : Int) (psb (PSs T Y (VW y k_)) (T 0).toNat)) (8 + ((k_ : Nat) : Int)) (psb (fun y_ => ¬ SC T Y (VW y k_) y_ = -4) (T 0).toNat)) (8 + ((k_ : Nat) : Int)))) (hA.2.2.2 (8 + ((k_ : Nat) : Int))) (by omega) dL_law_339 ?_
    refine lv_aload X.1 X.2.1 dL_law_340 (lv_at hl 6 rfl) ?_
    refine ri_push X (v := 7) (by decide) dL_law_342 ?_
    refine lv_iload X.1 X.2.1 dL_law_344 (lv_at hl 9 rfl) ?_
    refine ri_add X (v := (7 + ((k_ : Nat) : Int))) rfl dL_law_346 ?_
    refine aL_lhad X I (v := ((uf (uf HD ((k_ : Nat) : Int) (psb (PSs T Y (VW y k_)) (T 0).toNat)) (8 + ((k_ : Nat) : Int)) (psb (fun y_ => ¬ SC T Y (VW y k_) y_ = -4) (T 0).toNat)) (7 + ((k_ : Nat) : Int)))) (hA.2.2.2 (7 + ((k_ : Nat) : Int))) (by omega) dL_law_347 ?_
    refine ri_andnot X (by rw [ha2_]; omega) (by rw [hb2_]; omega) dL_law_348 dL_law_349 dL_law_350 ?_
    refine rz_ne (tgt := 358) X (by rw [hz2_]; decide) dL_law_351 (by decide) (fun c23 => by exfalso; omega) (fun c23 => ?_)
    refine ri_const X (v := 1) dL_law_354 ?_
    refine lv_goto (tgt := 359) X.1 X.2.1 dL_law_355 (by decide) ?_
    refine lv_istore (lv' := [(6, .int (iI 1)), (0, .ref b), (1, .ref (G.2.2 0)), (2, .ref (G.2.2 57)), (3, .ref (G.2.2 58)), (4, .ref (G.2.2 59)), (5, .ref (G.2.2 60)), (7, .int (iI y)), (8, .int (iI ((nn : Nat) : Int))), (9, .int (iI ((k_ : Nat) : Int)))]) X.1 X.2.1 dL_law_359 hl (by decide) rfl (fun ls hl => ?_)
    refine ri_iinc X (k := 9) (v := (((k_ : Nat) : Int) + 1)) (lv' := [(9, .int (iI (((k_ : Nat) : Int) + 1))), (6, .int (iI 1)), (0, .ref b), (1, .ref (G.2.2 0)), (2, .ref (G.2.2 57)), (3, .ref (G.2.2 58)), (4, .ref (G.2.2 59)), (5, .ref (G.2.2 60)), (7, .int (iI y)), (8, .int (iI ((nn : Nat) : Int)))]) rfl dL_law_361 hl rfl (by decide) rfl (fun ls hl => ?_)
    refine lv_goto (tgt := 158) X.1 X.2.1 dL_law_364 (by decide) ?_
    have hl : lv_has ls 14 [(9, .int (iI ((k_ + 1 : Nat) : Int))), (6, .int (iI 1)), (0, .ref b), (1, .ref (G.2.2 0)), (2, .ref (G.2.2 57)), (3, .ref (G.2.2 58)), (4, .ref (G.2.2 59)), (5, .ref (G.2.2 60)), (7, .int (iI y)), (8, .int (iI ((nn : Nat) : Int)))] := by
      have e_ : ((k_ : Nat) : Int) + 1 = ((k_ + 1 : Nat) : Int) := by omega
      rw [← e_]; exact hl
    exact nx _ _ hA hI hdn _ _ I ls (lv_sub hl [2, 3, 4, 5, 6, 7, 1, 8, 9, 0] rfl)
  · skip
    have hk0 : k_ = 0 := by omega
    have hv1_ : (uf (uf HD ((k_ : Nat) : Int) (psb (PSs T Y (VW y k_)) (T 0).toNat)) (8 + ((k_ : Nat) : Int)) (psb (fun y_ => ¬ SC T Y (VW y k_) y_ = -4) (T 0).toNat)) 0 = psb (PSs T Y (VW y k_)) (T 0).toNat := by
      have := (hdn 0 (by omega)).1
      rw [hk0] at this ⊢
      exact this
    have hv2_ : (uf (uf HD ((k_ : Nat) : Int) (psb (PSs T Y (VW y k_)) (T 0).toNat)) (8 + ((k_ : Nat) : Int)) (psb (fun y_ => ¬ SC T Y (VW y k_) y_ = -4) (T 0).toNat)) 8 = psb (fun y_ => ¬ SC T Y (VW y k_) y_ = -4) (T 0).toNat := by
      have := (hdn 0 (by omega)).2
      rw [hk0] at this ⊢
      exact this
    refine lv_aload X.1 X.2.1 dL_law_284 (lv_at hl 6 rfl) ?_
    refine ri_const X (v := 0) dL_law_286 ?_
    refine aL_lhad X I (v := ((uf (uf HD ((k_ : Nat) : Int) (psb (PSs T Y (VW y k_)) (T 0).toNat)) (8 + ((k_ : Nat) : Int)) (psb (fun y_ => ¬ SC T Y (VW y k_) y_ = -4) (T 0).toNat)) 0)) (hA.2.2.2 0) (by omega) dL_law_287 ?_
    refine cl_i I (runS (As := [.int (iI ((uf (uf HD ((k_ : Nat) : Int) (psb (PSs T Y (VW y k_)) (T 0).toNat)) (8 + ((k_ : Nat) : Int)) (psb (fun y_ => ¬ SC T Y (VW y k_) y_ = -4) (T 0).toNat)) 0))]) (rest := []) X (k_L_bits l (aS s) G S19 ((uf (uf HD ((k_ : Nat) : Int) (psb (PSs T Y (VW y k_)) (T 0).toNat)) (8 + ((k_ : Nat) : Int)) (psb (fun y_ => ¬ SC T Y (VW y k_) y_ = -4) (T 0).toNat)) 0) (by rw [hv1_]; omega)) (gdC tb_605 gdB) tb_603 tb_604 tb_13 ⟨ok_L_bits, ⟨Nat.le_of_ble_eq_true rfl, Nat.le_of_ble_eq_true rfl⟩, rfl, rfl⟩ (PreS.of I) rfl hl.1 rfl (Nat.le_of_ble_eq_true rfl) dL_law_288 ⟨Nat.le_of_ble_eq_true rfl, Nat.le_of_ble_eq_true rfl⟩) (fun r24 S25 H locs q26 I => ?_)
    obtain ⟨e_, es_⟩ := q26
    rw [es_] at I
    have e2_ : r24 = T 0 := by rw [e_, hv1_, bits_psb (by omega), cq_all _ (fun i_ _ _ => PS_e (by rw [VW_h, hk0]; rfl))]; omega
    subst e2_
    refine lv_aload_n X.1 X.2.1 dL_law_291 rfl (lv_at hl 3 rfl) ?_
    refine ri_const X (v := 0) dL_law_292 ?_
    refine aL_lt X I (v := (T 0)) (hA.1 0) (by omega) dL_law_293 ?_
    refine rj_ne (tgt := 358) X (by omega) (by omega) dL_law_294 (by decide) (fun c27 => by exfalso; omega) (fun c27 => ?_)
    refine lv_aload X.1 X.2.1 dL_law_297 (lv_at hl 6 rfl) ?_
    refine ri_push X (v := 8) (by decide) dL_law_299 ?_
    refine aL_lhad X I (v := ((uf (uf HD ((k_ : Nat) : Int) (psb (PSs T Y (VW y k_)) (T 0).toNat)) (8 + ((k_ : Nat) : Int)) (psb (fun y_ => ¬ SC T Y (VW y k_) y_ = -4) (T 0).toNat)) 8)) (hA.2.2.2 8) (by omega) dL_law_301 ?_
    refine cl_i I (runS (As := [.int (iI ((uf (uf HD ((k_ : Nat) : Int) (psb (PSs T Y (VW y k_)) (T 0).toNat)) (8 + ((k_ : Nat) : Int)) (psb (fun y_ => ¬ SC T Y (VW y k_) y_ = -4) (T 0).toNat)) 8))]) (rest := []) X (k_L_bits l (aS s) G S19 ((uf (uf HD ((k_ : Nat) : Int) (psb (PSs T Y (VW y k_)) (T 0).toNat)) (8 + ((k_ : Nat) : Int)) (psb (fun y_ => ¬ SC T Y (VW y k_) y_ = -4) (T 0).toNat)) 8) (by rw [hv2_]; omega)) (gdC tb_605 gdB) tb_603 tb_604 tb_13 ⟨ok_L_bits, ⟨Nat.le_of_ble_eq_true rfl, Nat.le_of_ble_eq_true rfl⟩, rfl, rfl⟩ (PreS.of I) rfl hl.1 rfl (Nat.le_of_ble_eq_true rfl) dL_law_302 ⟨Nat.le_of_ble_eq_true rfl, Nat.le_of_ble_eq_true rfl⟩) (fun r28 S29 H locs q30 I => ?_)
    obtain ⟨e_, es_⟩ := q30
    rw [es_] at I
    have e2_ : r28 = T 0 := by rw [e_, hv2_, bits_psb (by omega), cq_all _ (fun i_ _ _ => SC_e (by rw [VW_h, hk0]; rfl))]; omega
    subst e2_
    refine lv_aload_n X.1 X.2.1 dL_law_305 rfl (lv_at hl 3 rfl) ?_
    refine ri_const X (v := 0) dL_law_306 ?_
    refine aL_lt X I (v := (T 0)) (hA.1 0) (by omega) dL_law_307 ?_
    refine rj_ne (tgt := 358) X (by omega) (by omega) dL_law_308 (by decide) (fun c31 => by exfalso; omega) (fun c31 => ?_)
    refine lv_goto (tgt := 354) X.1 X.2.1 dL_law_311 (by decide) ?_
    refine ri_const X (v := 1) dL_law_354 ?_
    refine lv_goto (tgt := 359) X.1 X.2.1 dL_law_355 (by decide) ?_
    refine lv_istore (lv' := [(6, .int (iI 1)), (0, .ref b), (1, .ref (G.2.2 0)), (2, .ref (G.2.2 57)), (3, .ref (G.2.2 58)), (4, .ref (G.2.2 59)), (5, .ref (G.2.2 60)), (7, .int (iI y)), (8, .int (iI ((nn : Nat) : Int))), (9, .int (iI ((k_ : Nat) : Int)))]) X.1 X.2.1 dL_law_359 hl (by decide) rfl (fun ls hl => ?_)
    refine ri_iinc X (k := 9) (v := (((k_ : Nat) : Int) + 1)) (lv' := [(9, .int (iI (((k_ : Nat) : Int) + 1))), (6, .int (iI 1)), (0, .ref b), (1, .ref (G.2.2 0)), (2, .ref (G.2.2 57)), (3, .ref (G.2.2 58)), (4, .ref (G.2.2 59)), (5, .ref (G.2.2 60)), (7, .int (iI y)), (8, .int (iI ((nn : Nat) : Int)))]) rfl dL_law_361 hl rfl (by decide) rfl (fun ls hl => ?_)
    refine lv_goto (tgt := 158) X.1 X.2.1 dL_law_364 (by decide) ?_
    have hl : lv_has ls 14 [(9, .int (iI ((k_ + 1 : Nat) : Int))), (6, .int (iI 1)), (0, .ref b), (1, .ref (G.2.2 0)), (2, .ref (G.2.2 57)), (3, .ref (G.2.2 58)), (4, .ref (G.2.2 59)), (5, .ref (G.2.2 60)), (7, .int (iI y)), (8, .int (iI ((nn : Nat) : Int)))] := by
      have e_ : ((k_ : Nat) : Int) + 1 = ((k_ + 1 : Nat) : Int) := by omega
      rw [← e_]; exact hl
    exact nx _ _ hA hI hdn _ _ I ls (lv_sub hl [2, 3, 4, 5, 6, 7, 1, 8, 9, 0] rfl)
set_option maxRecDepth 100000 in
set_option maxHeartbeats 4000000 in
theorem law_P3 {p : Program} {l : Launch} {e : Env} {s : State} {m : MethodId} {below : List Frame} {meth : Method} {c : Code} {b L : Nat} {xs : Nat → Int32} {G : Ge} (X : CallFix p m c cL_law 14 s #[Value.ref b] TB "NameSeekerLaw") (hr : meth.sig.returnType = ret) (hlk : meth.locks = false) (hE : XS b L xs s) (hL : L ≤ 260) (hbA : ¬ aS s b)  {S : St} (T Y V HD PK : Int → Int) (hA : AR T Y V HD S) (hT : TOK T Y) (hv0 : V 0 = 0) (hP : POK T PK 3) (hI : LI T Y V PK 6 2 3 0 0 S) {H : Heap} {locs : List Loc} (I : In (KL (aS s) G) s s.heap H locs S) {ls : Array Slot} (hl : lv_has ls 14 [(0, .ref b), (1, .ref (G.2.2 0)), (2, .ref (G.2.2 57)), (3, .ref (G.2.2 58)), (4, .ref (G.2.2 59)), (5, .ref (G.2.2 60)), (6, .int (iI 1))]) : LG_ p l e s m below meth c b H locs (F0 m 140 ls []) := by
  have hT0 := hT.1
  refine lv_aload_n X.1 X.2.1 dL_law_140 rfl (lv_at hl 0 rfl) ?_
  refine ri_push X (v := 29) (by decide) dL_law_141 ?_
  refine cl_cell X I hE hbA hL (k := 29) (by omega) hl.1 (Nat.le_of_ble_eq_true rfl) (Nat.le_of_ble_eq_true rfl) (Nat.le_of_ble_eq_true rfl) ⟨Nat.le_of_ble_eq_true rfl, Nat.le_of_ble_eq_true rfl⟩ dL_law_143 (fun z1 H locs hz1 I => ?_)
  obtain ⟨y, hy, hyg⟩ : ∃ y : Int, (0 ≤ y ∧ y < 2147483648) ∧ y = z1 := ⟨z1, hz1, rfl⟩
  subst hyg
  refine lv_istore (lv' := [(7, .int (iI y)), (0, .ref b), (1, .ref (G.2.2 0)), (2, .ref (G.2.2 57)), (3, .ref (G.2.2 58)), (4, .ref (G.2.2 59)), (5, .ref (G.2.2 60)), (6, .int (iI 1))]) X.1 X.2.1 dL_law_146 hl (by decide) rfl (fun ls hl => ?_)
  refine lv_iload X.1 X.2.1 dL_law_148 (lv_at hl 0 rfl) ?_
  refine ri_push X (v := 7) (by decide) dL_law_150 ?_
  refine ri_rem X (v := (y % 7)) rfl (by omega) (by omega) dL_law_152 ?_
  refine lv_istore (lv' := [(8, .int (iI (y % 7))), (7, .int (iI y)), (0, .ref b), (1, .ref (G.2.2 0)), (2, .ref (G.2.2 57)), (3, .ref (G.2.2 58)), (4, .ref (G.2.2 59)), (5, .ref (G.2.2 60)), (6, .int (iI 1))]) X.1 X.2.1 dL_law_153 hl (by decide) rfl (fun ls hl => ?_)
  obtain ⟨nn, hnn⟩ : ∃ n_ : Nat, y % 7 = (n_ : Int) := ⟨(y % 7).toNat, by omega⟩
  refine ri_const X (v := 0) dL_law_155 ?_
  refine lv_istore (lv' := [(9, .int (iI 0)), (8, .int (iI (y % 7))), (7, .int (iI y)), (0, .ref b), (1, .ref (G.2.2 0)), (2, .ref (G.2.2 57)), (3, .ref (G.2.2 58)), (4, .ref (G.2.2 59)), (5, .ref (G.2.2 60)), (6, .int (iI 1))]) X.1 X.2.1 dL_law_156 hl (by decide) rfl (fun ls hl => ?_)
  have lp_158 : ∀ (fu_ : Nat) (k_ : Nat) (U : St) (V : Int → Int) (HD : Int → Int), 9 - k_ < fu_ → ∀ (hk : k_ ≤ nn + 1) (hA : AR T Y V HD U) (hw : WA V y ((k_ - 1 : Nat) : Int)) (hI : LI T Y V PK 6 2 3 0 (126 * (k_ : Int)) U) (hd : ∀ j_ : Nat, j_ < k_ → HD j_ = psb (PSs T Y (VW y j_)) (T 0).toNat ∧ HD (8 + (j_ : Int)) = psb (fun y_ => ¬ SC T Y (VW y j_) y_ = -4) (T 0).toNat) (H : Heap) (locs : List Loc), In (KL (aS s) G) s s.heap H locs U → ∀ ls : Array Slot, lv_has ls 14 [(0, .ref b), (1, .ref (G.2.2 0)), (2, .ref (G.2.2 57)), (3, .ref (G.2.2 58)), (4, .ref (G.2.2 59)), (5, .ref (G.2.2 60)), (6, .int (iI 1)), (7, .int (iI y)), (8, .int (iI ((nn : Nat) : Int))), (9, .int (iI ((k_ : Nat) : Int)))] → LG_ p l e s m below meth c b H locs (F0 m 158 ls []) := by
    intro fu_
    induction fu_ with
    | zero => intro k_ U V HD hm; exact absurd hm (by omega)
    | succ fu_ ih_158 =>
      intro k_ U V HD hm_158 hk hA hw hI hd H locs I ls hl
      refine lv_iload X.1 X.2.1 dL_law_158 (lv_at hl 9 rfl) ?_
      refine lv_iload X.1 X.2.1 dL_law_160 (lv_at hl 8 rfl) ?_
      refine rj_gt (tgt := 367) X (by omega) (by omega) dL_law_162 (by decide) (fun c2 => ?_) (fun c2 => ?_)
      · skip
        have hkn : k_ = nn + 1 := by omega
        subst hkn
        exact law_P4 X hr hlk hE hL hbA T Y V HD PK y _ nn hA hT (by omega) (by rw [show ((nn + 1 - 1 : Nat) : Int) = (nn : Int) by omega] at hw; exact hw) (fun j_ hj_ => hd j_ (by omega)) hI (by omega) I (lv_sub hl [0, 1, 2, 3, 4, 5, 6, 8] rfl)
      · skip
        refine lv_iload X.1 X.2.1 dL_law_165 (lv_at hl 6 rfl) ?_
        refine rz_eq (tgt := 367) X (by omega) dL_law_167 (by decide) (fun c3 => by exfalso; omega) (fun c3 => ?_)
        refine lv_iload X.1 X.2.1 dL_law_170 (lv_at hl 9 rfl) ?_
        refine rz_le (tgt := 220) X (by omega) dL_law_172 (by decide) (fun c4 => ?_) (fun c4 => ?_)
        · skip
          have hw2 : WA V y k_ := by
            rw [show ((k_ - 1 : Nat) : Int) = (k_ : Int) by omega] at hw
            exact hw
          exact law_P3b X hr hlk hE hL hbA T Y V HD PK y nn k_ hA hT hy (by omega) (by omega) hw2 hd hP hI (fun U HD hA hI hd H locs I ls hl => ih_158 (k_ + 1) U V HD (by omega) (by omega) hA (by rw [show ((k_ + 1 - 1 : Nat) : Int) = (k_ : Int) by omega]; exact hw2) (by rw [show 126 * ((k_ + 1 : Nat) : Int) = 126 * (k_ : Int) + 126 by omega]; exact hI) hd _ _ I ls hl) I (lv_sub hl [0, 1, 2, 3, 4, 5, 6, 7, 8, 9] rfl)
        · skip
          have hV := WA_ok (by omega) hw
          refine lv_aload X.1 X.2.1 dL_law_175 (lv_at hl 4 rfl) ?_
          refine ri_const X (v := 0) dL_law_177 ?_
          refine lv_iload X.1 X.2.1 dL_law_178 (lv_at hl 9 rfl) ?_
          refine qL_lw X I (by omega) dL_law_180 (fun H locs I => ?_)
          obtain ⟨S5, hS5⟩ : ∃ u_ : St, u_ = (ua U.1 72 0 ((k_ : Nat) : Int), U.2) := ⟨_, rfl⟩
          rw [← hS5] at I
          have hA := AR_lw (z := 0) (v := ((k_ : Nat) : Int)) hA hS5
          have hI := LI_ar (by decide) (by omega) hI hS5
          refine lv_aload X.1 X.2.1 dL_law_181 (lv_at hl 4 rfl) ?_
          refine lv_iload X.1 X.2.1 dL_law_183 (lv_at hl 9 rfl) ?_
          refine lv_iload X.1 X.2.1 dL_law_185 (lv_at hl 7 rfl) ?_
          refine ri_const X (v := 3) dL_law_187 ?_
          refine lv_iload X.1 X.2.1 dL_law_188 (lv_at hl 9 rfl) ?_
          refine ri_mul X (v := (3 * ((k_ : Nat) : Int))) rfl dL_law_190 ?_
          refine ri_shr X hy (by omega) dL_law_191 ?_
          have t6 := shr_r (a := y) (k := (3 * ((k_ : Nat) : Int))) hy
          refine ri_push X (v := 7) (by decide) dL_law_192 ?_
          refine ri_and7 X (shr_0 _ _) dL_law_194 ?_
          refine cl_i I (runS (As := [.int (iI ((shr y (3 * ((k_ : Nat) : Int))) % 8))]) (rest := [.int (iI ((k_ : Nat) : Int)), .ref (G.2.2 59)]) X (k_L_letter l (aS s) G S5 ((shr y (3 * ((k_ : Nat) : Int))) % 8) (by omega)) (gdC tb_493 gdB) tb_491 tb_492 tb_13 ⟨ok_L_letter, ⟨Nat.le_of_ble_eq_true rfl, Nat.le_of_ble_eq_true rfl⟩, rfl, rfl⟩ (PreS.of I) rfl hl.1 rfl (Nat.le_of_ble_eq_true rfl) dL_law_195 ⟨Nat.le_of_ble_eq_true rfl, Nat.le_of_ble_eq_true rfl⟩) (fun r7 S8 H locs q9 I => ?_)
          obtain ⟨e_, es_⟩ := q9
          rw [es_] at I
          subst e_
          refine qL_lw X I (by omega) dL_law_198 (fun H locs I => ?_)
          obtain ⟨S10, hS10⟩ : ∃ u_ : St, u_ = (ua S5.1 72 ((k_ : Nat) : Int) (lt8 ((shr y (3 * ((k_ : Nat) : Int))) % 8)), S5.2) := ⟨_, rfl⟩
          rw [← hS10] at I
          have hA := AR_lw (z := ((k_ : Nat) : Int)) (v := (lt8 ((shr y (3 * ((k_ : Nat) : Int))) % 8))) hA hS10
          have hI := LI_ar (by decide) (by omega) hI hS10
          refine lv_aload_n X.1 X.2.1 dL_law_199 rfl (lv_at hl 1 rfl) ?_
          refine lv_aload X.1 X.2.1 dL_law_200 (lv_at hl 4 rfl) ?_
          refine lv_iload X.1 X.2.1 dL_law_202 (lv_at hl 9 rfl) ?_
          refine aL_lw X I (v := ((uf (uf V 0 ((k_ : Nat) : Int)) ((k_ : Nat) : Int) (lt8 ((shr y (3 * ((k_ : Nat) : Int))) % 8))) ((k_ : Nat) : Int))) (hA.2.2.1 ((k_ : Nat) : Int)) (by omega) dL_law_204 ?_
          refine clx_i I (runV (As := [.int (iI ((uf (uf V 0 ((k_ : Nat) : Int)) ((k_ : Nat) : Int) (lt8 ((shr y (3 * ((k_ : Nat) : Int))) % 8))) ((k_ : Nat) : Int)))]) (rest := []) X (k_X9_type l G S10 ((uf (uf V 0 ((k_ : Nat) : Int)) ((k_ : Nat) : Int) (lt8 ((shr y (3 * ((k_ : Nat) : Int))) % 8))) ((k_ : Nat) : Int)) (by rw [show _ = lt8 (shr y (3 * (k_ : Int)) % 8) from uf_eq]; have := lt8_l (v := shr y (3 * (k_ : Int)) % 8) (by omega); unfold ltr at this; omega) 600 hI.1) (gdC tb_429 (gdC tb_430 (gdC tb_431 (gdC tb_14 (gdC tb_432 gdB))))) ⟨ok_X9_type, ⟨Nat.le_of_ble_eq_true rfl, Nat.le_of_ble_eq_true rfl⟩, rfl, rfl⟩ (PreV.ofL I) rfl hl.1 rfl (Nat.le_of_ble_eq_true rfl) dL_law_205 ⟨Nat.le_of_ble_eq_true rfl, Nat.le_of_ble_eq_true rfl⟩) (fun _ _ q_ => f7_type q_) (fun r11 S12 H locs q13 I => ?_)
          have hA := AR_fr (f7_type q13) hA
          have hw0 := hw.1
          have hx_ : ((uf (uf V 0 ((k_ : Nat) : Int)) ((k_ : Nat) : Int) (lt8 ((shr y (3 * ((k_ : Nat) : Int))) % 8))) ((k_ : Nat) : Int)) = lt8 (shr y (3 * (k_ : Int)) % 8) := uf_eq
          have hl8_ := lt8_l (v := shr y (3 * (k_ : Int)) % 8) (by omega)
          obtain ⟨e_, hI, -⟩ := op_type (V2 := (uf (uf V 0 ((k_ : Nat) : Int)) ((k_ : Nat) : Int) (lt8 ((shr y (3 * ((k_ : Nat) : Int))) % 8)))) hV hI (by omega) (by rw [hx_]; exact hl8_) ⟨by rw [uf_ne (by omega), uf_eq]; omega, fun j_ a_ b_ => by rw [uf_ne (by omega), uf_ne (by omega)], by rw [show 1 + V 0 = (k_ : Int) by omega]⟩ q13
          have e2_ : r11 = (k_ : Int) := by omega
          subst e2_
          have hw2 : WA (uf (uf V 0 ((k_ : Nat) : Int)) ((k_ : Nat) : Int) (lt8 ((shr y (3 * ((k_ : Nat) : Int))) % 8))) y k_ := ⟨by rw [uf_ne (by omega), uf_eq], fun j_ a_ b_ => by
            rcases Int.lt_or_le j_ k_ with z_ | z_
            · rw [uf_ne (by omega), uf_ne (by omega)]; exact hw.2 j_ a_ (by omega)
            · rw [show j_ = (k_ : Int) by omega]; exact hx_⟩
          try clear q13
          refine lv_iload X.1 X.2.1 dL_law_208 (lv_at hl 9 rfl) ?_
          refine rj_ne (tgt := 217) X (by omega) (by omega) dL_law_210 (by decide) (fun c14 => by exfalso; omega) (fun c14 => ?_)
          refine ri_const X (v := 1) dL_law_213 ?_
          refine lv_goto (tgt := 218) X.1 X.2.1 dL_law_214 (by decide) ?_
          refine lv_istore (lv' := [(6, .int (iI 1)), (0, .ref b), (1, .ref (G.2.2 0)), (2, .ref (G.2.2 57)), (3, .ref (G.2.2 58)), (4, .ref (G.2.2 59)), (5, .ref (G.2.2 60)), (7, .int (iI y)), (8, .int (iI ((nn : Nat) : Int))), (9, .int (iI ((k_ : Nat) : Int)))]) X.1 X.2.1 dL_law_218 hl (by decide) rfl (fun ls hl => ?_)
          exact law_P3b X hr hlk hE hL hbA T Y (uf (uf V 0 ((k_ : Nat) : Int)) ((k_ : Nat) : Int) (lt8 ((shr y (3 * ((k_ : Nat) : Int))) % 8))) HD PK y nn k_ hA hT hy (by omega) (by omega) hw2 hd hP hI (fun U HD hA hI hd H locs I ls hl => ih_158 (k_ + 1) U (uf (uf V 0 ((k_ : Nat) : Int)) ((k_ : Nat) : Int) (lt8 ((shr y (3 * ((k_ : Nat) : Int))) % 8))) HD (by omega) (by omega) hA (by rw [show ((k_ + 1 - 1 : Nat) : Int) = (k_ : Int) by omega]; exact hw2) (by rw [show 126 * ((k_ + 1 : Nat) : Int) = 126 * (k_ : Int) + 126 by omega]; exact hI) hd _ _ I ls hl) I (lv_sub hl [1, 2, 3, 4, 5, 6, 0, 7, 8, 9] rfl)
  have hl : lv_has ls 14 [(9, .int (iI ((0 : Nat) : Int))), (8, .int (iI (y % 7))), (7, .int (iI y)), (0, .ref b), (1, .ref (G.2.2 0)), (2, .ref (G.2.2 57)), (3, .ref (G.2.2 58)), (4, .ref (G.2.2 59)), (5, .ref (G.2.2 60)), (6, .int (iI 1))] := by
    have e_ : 0 = ((0 : Nat) : Int) := rfl
    rw [← e_]; exact hl
  have hl : lv_has ls 14 [(9, .int (iI ((0 : Nat) : Int))), (8, .int (iI ((nn : Nat) : Int))), (7, .int (iI y)), (0, .ref b), (1, .ref (G.2.2 0)), (2, .ref (G.2.2 57)), (3, .ref (G.2.2 58)), (4, .ref (G.2.2 59)), (5, .ref (G.2.2 60)), (6, .int (iI 1))] := by
    have e_ : (y % 7) = ((nn : Nat) : Int) := hnn
    rw [← e_]; exact hl
  exact lp_158 (10) 0 S V HD (by omega) (by omega) (hA) (⟨hv0, fun j_ a_ b_ => absurd b_ (by omega)⟩) (hI) (fun j_ hj_ => absurd hj_ (by omega)) _ _ I ls (lv_sub hl [3, 4, 5, 6, 7, 8, 9, 2, 1, 0] rfl)
