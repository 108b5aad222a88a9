set_option maxRecDepth 100000 in
set_option maxHeartbeats 4000000 in
theorem law_P5 {p : Program} {l : Launch} {e : Env} {s : State} {m : MethodId} {below : List Frame} {meth : Method} {c : Code} {b L : Nat} {xs : Nat → Int32} {G : Ge} (X : CallFix p m c cL_law 14 s #[Value.ref b] TB "NameSeekerLaw") (hr : meth.sig.returnType = ret) (hlk : meth.locks = false) (hE : XS b L xs s) (hL : L ≤ 260) (hbA : ¬ aS s b)  {S : St} (T Y V Vw HD PK : Int → Int) (h : Int) (hA : AR T Y V HD S) (hT : TOK T Y) (hI : LI T Y Vw PK 6 2 3 0 h S) (hh : h ≤ 1000) {H : Heap} {locs : List Loc} (I : In (KL (aS s) G) s s.heap H locs S) {ls : Array Slot} (hl : lv_has ls 14 [(0, .ref b), (1, .ref (G.2.2 0)), (2, .ref (G.2.2 57)), (3, .ref (G.2.2 58)), (4, .ref (G.2.2 59)), (5, .ref (G.2.2 60)), (6, .int (iI 1))]) : LG_ p l e s m below meth c b H locs (F0 m 499 ls []) := by
  have hT0 := hT.1
  refine ri_const X (v := 0) dL_law_499 ?_
  refine lv_istore (lv' := [(9, .int (iI 0)), (0, .ref b), (1, .ref (G.2.2 0)), (2, .ref (G.2.2 57)), (3, .ref (G.2.2 58)), (4, .ref (G.2.2 59)), (5, .ref (G.2.2 60)), (6, .int (iI 1))]) X.1 X.2.1 dL_law_500 hl (by decide) rfl (fun ls hl => ?_)
  have lp_502 : ∀ (fu_ : Nat) (n_ : Nat) (U : St) (HD : Int → Int), 9 - n_ < fu_ → ∀ (hn : (n_ : Int) ≤ T 0) (hA : AR T Y V HD U) (hI : LI T Y Vw PK 6 2 3 0 h U) (hd : ∀ i_ : Int, 0 ≤ i_ → i_ < n_ → HD (16 + i_) = 6 + i_) (H : Heap) (locs : List Loc), In (KL (aS s) G) s s.heap H locs U → ∀ ls : Array Slot, lv_has ls 14 [(0, .ref b), (1, .ref (G.2.2 0)), (2, .ref (G.2.2 57)), (3, .ref (G.2.2 58)), (4, .ref (G.2.2 59)), (5, .ref (G.2.2 60)), (6, .int (iI 1)), (9, .int (iI ((n_ : Nat) : Int)))] → LG_ p l e s m below meth c b H locs (F0 m 502 ls []) := by
    intro fu_
    induction fu_ with
    | zero => intro n_ U HD hm; exact absurd hm (by omega)
    | succ fu_ ih_502 =>
      intro n_ U HD hm_502 hn hA hI hd H locs I ls hl
      refine lv_iload X.1 X.2.1 dL_law_502 (lv_at hl 7 rfl) ?_
      refine lv_aload_n X.1 X.2.1 dL_law_504 rfl (lv_at hl 2 rfl) ?_
      refine ri_const X (v := 0) dL_law_505 ?_
      refine aL_lt X I (v := (T 0)) (hA.1 0) (by omega) dL_law_506 ?_
      refine rj_ge (tgt := 531) X (by omega) (by omega) dL_law_507 (by decide) (fun c1 => ?_) (fun c1 => ?_)
      · skip
        obtain ⟨hc58, hc57, hc52, hc56⟩ := hI.2.2.2.2.1
        have hch := hI.2.2.2.2.2
        refine lv_aload_n X.1 X.2.1 dL_law_531 rfl (lv_at hl 1 rfl) ?_
        refine ri_const X (v := 4) dL_law_532 ?_
        refine clx_i I (runV (As := [.int (iI 4)]) (rest := []) X (k_X9_count l G U 4 (by omega) 600 hI.1) (gdC tb_470 (gdC tb_471 (gdC tb_472 (gdC tb_14 (gdC tb_473 gdB))))) ⟨ok_X9_count, ⟨Nat.le_of_ble_eq_true rfl, Nat.le_of_ble_eq_true rfl⟩, rfl, rfl⟩ (PreV.ofL I) rfl hl.1 rfl (Nat.le_of_ble_eq_true rfl) dL_law_533 ⟨Nat.le_of_ble_eq_true rfl, Nat.le_of_ble_eq_true rfl⟩) (fun _ _ q_ => f7_count q_) (fun r2 S3 H locs q4 I => ?_)
        have hA := AR_fr (f7_count q4) hA
        obtain ⟨e_, es_⟩ := cnt_4 q4
        rw [es_] at I hA
        subst e_
        try clear q4
        refine lv_istore (lv' := [(9, .int (iI (U.1 52 0))), (0, .ref b), (1, .ref (G.2.2 0)), (2, .ref (G.2.2 57)), (3, .ref (G.2.2 58)), (4, .ref (G.2.2 59)), (5, .ref (G.2.2 60)), (6, .int (iI 1))]) X.1 X.2.1 dL_law_536 hl (by decide) rfl (fun ls hl => ?_)
        refine lv_aload_n X.1 X.2.1 dL_law_538 rfl (lv_at hl 2 rfl) ?_
        refine ri_push X (v := 6) (by decide) dL_law_539 ?_
        refine clx_i I (runV (As := [.int (iI 6)]) (rest := []) X (k_X9_count l G U 6 (by omega) 600 hI.1) (gdC tb_470 (gdC tb_471 (gdC tb_472 (gdC tb_14 (gdC tb_473 gdB))))) ⟨ok_X9_count, ⟨Nat.le_of_ble_eq_true rfl, Nat.le_of_ble_eq_true rfl⟩, rfl, rfl⟩ (PreV.ofL I) rfl hl.1 rfl (Nat.le_of_ble_eq_true rfl) dL_law_541 ⟨Nat.le_of_ble_eq_true rfl, Nat.le_of_ble_eq_true rfl⟩) (fun _ _ q_ => f7_count q_) (fun r5 S6 H locs q7 I => ?_)
        have hA := AR_fr (f7_count q7) hA
        obtain ⟨e_, es_⟩ := cnt_6 q7
        rw [es_] at I hA
        subst e_
        try clear q7
        refine lv_istore (lv' := [(10, .int (iI (U.1 58 0))), (9, .int (iI (U.1 52 0))), (0, .ref b), (1, .ref (G.2.2 0)), (2, .ref (G.2.2 57)), (3, .ref (G.2.2 58)), (4, .ref (G.2.2 59)), (5, .ref (G.2.2 60)), (6, .int (iI 1))]) X.1 X.2.1 dL_law_544 hl (by decide) rfl (fun ls hl => ?_)
        refine lv_aload_n X.1 X.2.1 dL_law_546 rfl (lv_at hl 3 rfl) ?_
        refine ri_const X (v := 5) dL_law_547 ?_
        refine clx_i I (runV (As := [.int (iI 5)]) (rest := []) X (k_X9_count l G U 5 (by omega) 600 hI.1) (gdC tb_470 (gdC tb_471 (gdC tb_472 (gdC tb_14 (gdC tb_473 gdB))))) ⟨ok_X9_count, ⟨Nat.le_of_ble_eq_true rfl, Nat.le_of_ble_eq_true rfl⟩, rfl, rfl⟩ (PreV.ofL I) rfl hl.1 rfl (Nat.le_of_ble_eq_true rfl) dL_law_548 ⟨Nat.le_of_ble_eq_true rfl, Nat.le_of_ble_eq_true rfl⟩) (fun _ _ q_ => f7_count q_) (fun r8 S9 H locs q10 I => ?_)
        have hA := AR_fr (f7_count q10) hA
        obtain ⟨e_, es_⟩ := cnt_5 q10
        rw [es_] at I hA
        subst e_
        try clear q10
        refine lv_istore (lv' := [(11, .int (iI (U.1 57 0))), (10, .int (iI (U.1 58 0))), (9, .int (iI (U.1 52 0))), (0, .ref b), (1, .ref (G.2.2 0)), (2, .ref (G.2.2 57)), (3, .ref (G.2.2 58)), (4, .ref (G.2.2 59)), (5, .ref (G.2.2 60)), (6, .int (iI 1))]) X.1 X.2.1 dL_law_551 hl (by decide) rfl (fun ls hl => ?_)
        refine lv_aload_n X.1 X.2.1 dL_law_553 rfl (lv_at hl 4 rfl) ?_
        refine ri_push X (v := 7) (by decide) dL_law_554 ?_
        refine clx_i I (runV (As := [.int (iI 7)]) (rest := []) X (k_X9_count l G U 7 (by omega) 600 hI.1) (gdC tb_470 (gdC tb_471 (gdC tb_472 (gdC tb_14 (gdC tb_473 gdB))))) ⟨ok_X9_count, ⟨Nat.le_of_ble_eq_true rfl, Nat.le_of_ble_eq_true rfl⟩, rfl, rfl⟩ (PreV.ofL I) rfl hl.1 rfl (Nat.le_of_ble_eq_true rfl) dL_law_556 ⟨Nat.le_of_ble_eq_true rfl, Nat.le_of_ble_eq_true rfl⟩) (fun _ _ q_ => f7_count q_) (fun r11 S12 H locs q13 I => ?_)
        have hA := AR_fr (f7_count q13) hA
        obtain ⟨e_, es_⟩ := cnt_7 q13
        rw [es_] at I hA
        subst e_
        try clear q13
        refine lv_aload_n X.1 X.2.1 dL_law_559 rfl (lv_at hl 4 rfl) ?_
        refine ri_push X (v := 8) (by decide) dL_law_560 ?_
        refine clx_i I (runV (As := [.int (iI 8)]) (rest := [.int (iI (U.1 61 0))]) X (k_X9_count l G U 8 (by omega) 600 hI.1) (gdC tb_470 (gdC tb_471 (gdC tb_472 (gdC tb_14 (gdC tb_473 gdB))))) ⟨ok_X9_count, ⟨Nat.le_of_ble_eq_true rfl, Nat.le_of_ble_eq_true rfl⟩, rfl, rfl⟩ (PreV.ofL I) rfl hl.1 rfl (Nat.le_of_ble_eq_true rfl) dL_law_562 ⟨Nat.le_of_ble_eq_true rfl, Nat.le_of_ble_eq_true rfl⟩) (fun _ _ q_ => f7_count q_) (fun r14 S15 H locs q16 I => ?_)
        have hA := AR_fr (f7_count q16) hA
        obtain ⟨e_, es_⟩ := cnt_8 q16
        rw [es_] at I hA
        subst e_
        try clear q16
        refine ri_add X (v := ((U.1 61 0) + (U.1 62 0))) rfl dL_law_565 ?_
        refine lv_istore (lv' := [(12, .int (iI ((U.1 61 0) + (U.1 62 0)))), (11, .int (iI (U.1 57 0))), (10, .int (iI (U.1 58 0))), (9, .int (iI (U.1 52 0))), (0, .ref b), (1, .ref (G.2.2 0)), (2, .ref (G.2.2 57)), (3, .ref (G.2.2 58)), (4, .ref (G.2.2 59)), (5, .ref (G.2.2 60)), (6, .int (iI 1))]) X.1 X.2.1 dL_law_566 hl (by decide) rfl (fun ls hl => ?_)
        refine lv_iload X.1 X.2.1 dL_law_568 (lv_at hl 10 rfl) ?_
        refine rz_eq (tgt := 641) X (by omega) dL_law_570 (by decide) (fun c17 => by exfalso; omega) (fun c17 => ?_)
        refine lv_aload_n X.1 X.2.1 dL_law_573 rfl (lv_at hl 5 rfl) ?_
        refine lv_aload_n X.1 X.2.1 dL_law_574 rfl (lv_at hl 6 rfl) ?_
        refine lv_aload_n X.1 X.2.1 dL_law_575 rfl (lv_at hl 7 rfl) ?_
        refine cl_i I (runS (As := [.ref (G.2.2 0), .ref (G.2.2 57), .ref (G.2.2 58)]) (rest := []) X (k_L_lays l (aS s) G U T Y V HD (6 + T 0) 2 3 h (U.1 61 0 + U.1 62 0) hA hT (LB_of hI) (by omega)) (gdC tb_496 gdB) tb_494 tb_495 tb_13 ⟨ok_L_lays, ⟨Nat.le_of_ble_eq_true rfl, Nat.le_of_ble_eq_true rfl⟩, rfl, rfl⟩ (PreS.of I) rfl hl.1 rfl (Nat.le_of_ble_eq_true rfl) dL_law_576 ⟨Nat.le_of_ble_eq_true rfl, Nat.le_of_ble_eq_true rfl⟩) (fun r18 S19 H locs q20 I => ?_)
        obtain ⟨e_, hI, hA, hsm⟩ := q20
        subst e_
        obtain ⟨hd58, hd57, hd52, -⟩ := hI.2.2.2.2.1
        have hdh := hI.2.2.2.2.2
        refine rz_eq (tgt := 641) X (by omega) dL_law_579 (by decide) (fun c21 => by exfalso; omega) (fun c21 => ?_)
        refine lv_aload_n X.1 X.2.1 dL_law_582 rfl (lv_at hl 5 rfl) ?_
        refine ri_const X (v := 4) dL_law_583 ?_
        refine clx_i I (runV (As := [.int (iI 4)]) (rest := []) X (k_X9_count l G S19 4 (by omega) 600 hI.1) (gdC tb_470 (gdC tb_471 (gdC tb_472 (gdC tb_14 (gdC tb_473 gdB))))) ⟨ok_X9_count, ⟨Nat.le_of_ble_eq_true rfl, Nat.le_of_ble_eq_true rfl⟩, rfl, rfl⟩ (PreV.ofL I) rfl hl.1 rfl (Nat.le_of_ble_eq_true rfl) dL_law_584 ⟨Nat.le_of_ble_eq_true rfl, Nat.le_of_ble_eq_true rfl⟩) (fun _ _ q_ => f7_count q_) (fun r22 S23 H locs q24 I => ?_)
        have hA := AR_fr (f7_count q24) hA
        obtain ⟨e_, es_⟩ := cnt_4 q24
        rw [es_] at I hA
        subst e_
        try clear q24
        refine lv_iload X.1 X.2.1 dL_law_587 (lv_at hl 3 rfl) ?_
        refine lv_aload_n X.1 X.2.1 dL_law_589 rfl (lv_at hl 6 rfl) ?_
        refine ri_const X (v := 0) dL_law_590 ?_
        refine aL_lt X I (v := (T 0)) (hA.1 0) (by omega) dL_law_591 ?_
        refine ri_add X (v := ((U.1 52 0) + (T 0))) rfl dL_law_592 ?_
        refine rj_ne (tgt := 641) X (by omega) (by omega) dL_law_593 (by decide) (fun c25 => by exfalso; omega) (fun c25 => ?_)
        refine lv_aload_n X.1 X.2.1 dL_law_596 rfl (lv_at hl 5 rfl) ?_
        refine ri_push X (v := 6) (by decide) dL_law_597 ?_
        refine clx_i I (runV (As := [.int (iI 6)]) (rest := []) X (k_X9_count l G S19 6 (by omega) 600 hI.1) (gdC tb_470 (gdC tb_471 (gdC tb_472 (gdC tb_14 (gdC tb_473 gdB))))) ⟨ok_X9_count, ⟨Nat.le_of_ble_eq_true rfl, Nat.le_of_ble_eq_true rfl⟩, rfl, rfl⟩ (PreV.ofL I) rfl hl.1 rfl (Nat.le_of_ble_eq_true rfl) dL_law_599 ⟨Nat.le_of_ble_eq_true rfl, Nat.le_of_ble_eq_true rfl⟩) (fun _ _ q_ => f7_count q_) (fun r26 S27 H locs q28 I => ?_)
        have hA := AR_fr (f7_count q28) hA
        obtain ⟨e_, es_⟩ := cnt_6 q28
        rw [es_] at I hA
        subst e_
        try clear q28
        refine lv_iload X.1 X.2.1 dL_law_602 (lv_at hl 2 rfl) ?_
        refine ri_const X (v := 1) dL_law_604 ?_
        refine ri_add X (v := ((U.1 58 0) + 1)) rfl dL_law_605 ?_
        refine rj_ne (tgt := 641) X (by omega) (by omega) dL_law_606 (by decide) (fun c29 => by exfalso; omega) (fun c29 => ?_)
        refine lv_aload_n X.1 X.2.1 dL_law_609 rfl (lv_at hl 5 rfl) ?_
        refine ri_const X (v := 5) dL_law_610 ?_
        refine clx_i I (runV (As := [.int (iI 5)]) (rest := []) X (k_X9_count l G S19 5 (by omega) 600 hI.1) (gdC tb_470 (gdC tb_471 (gdC tb_472 (gdC tb_14 (gdC tb_473 gdB))))) ⟨ok_X9_count, ⟨Nat.le_of_ble_eq_true rfl, Nat.le_of_ble_eq_true rfl⟩, rfl, rfl⟩ (PreV.ofL I) rfl hl.1 rfl (Nat.le_of_ble_eq_true rfl) dL_law_611 ⟨Nat.le_of_ble_eq_true rfl, Nat.le_of_ble_eq_true rfl⟩) (fun _ _ q_ => f7_count q_) (fun r30 S31 H locs q32 I => ?_)
        have hA := AR_fr (f7_count q32) hA
        obtain ⟨e_, es_⟩ := cnt_5 q32
        rw [es_] at I hA
        subst e_
        try clear q32
        refine lv_iload X.1 X.2.1 dL_law_614 (lv_at hl 1 rfl) ?_
        refine rj_ne (tgt := 641) X (by omega) (by omega) dL_law_616 (by decide) (fun c33 => by exfalso; omega) (fun c33 => ?_)
        refine lv_aload_n X.1 X.2.1 dL_law_619 rfl (lv_at hl 5 rfl) ?_
        refine ri_push X (v := 7) (by decide) dL_law_620 ?_
        refine clx_i I (runV (As := [.int (iI 7)]) (rest := []) X (k_X9_count l G S19 7 (by omega) 600 hI.1) (gdC tb_470 (gdC tb_471 (gdC tb_472 (gdC tb_14 (gdC tb_473 gdB))))) ⟨ok_X9_count, ⟨Nat.le_of_ble_eq_true rfl, Nat.le_of_ble_eq_true rfl⟩, rfl, rfl⟩ (PreV.ofL I) rfl hl.1 rfl (Nat.le_of_ble_eq_true rfl) dL_law_622 ⟨Nat.le_of_ble_eq_true rfl, Nat.le_of_ble_eq_true rfl⟩) (fun _ _ q_ => f7_count q_) (fun r34 S35 H locs q36 I => ?_)
        have hA := AR_fr (f7_count q36) hA
        obtain ⟨e_, es_⟩ := cnt_7 q36
        rw [es_] at I hA
        subst e_
        try clear q36
        refine lv_aload_n X.1 X.2.1 dL_law_625 rfl (lv_at hl 5 rfl) ?_
        refine ri_push X (v := 8) (by decide) dL_law_626 ?_
        refine clx_i I (runV (As := [.int (iI 8)]) (rest := [.int (iI (S19.1 61 0))]) X (k_X9_count l G S19 8 (by omega) 600 hI.1) (gdC tb_470 (gdC tb_471 (gdC tb_472 (gdC tb_14 (gdC tb_473 gdB))))) ⟨ok_X9_count, ⟨Nat.le_of_ble_eq_true rfl, Nat.le_of_ble_eq_true rfl⟩, rfl, rfl⟩ (PreV.ofL I) rfl hl.1 rfl (Nat.le_of_ble_eq_true rfl) dL_law_628 ⟨Nat.le_of_ble_eq_true rfl, Nat.le_of_ble_eq_true rfl⟩) (fun _ _ q_ => f7_count q_) (fun r37 S38 H locs q39 I => ?_)
        have hA := AR_fr (f7_count q39) hA
        obtain ⟨e_, es_⟩ := cnt_8 q39
        rw [es_] at I hA
        subst e_
        try clear q39
        refine ri_add X (v := ((S19.1 61 0) + (S19.1 62 0))) rfl dL_law_631 ?_
        refine lv_iload X.1 X.2.1 dL_law_632 (lv_at hl 0 rfl) ?_
        refine rj_ne (tgt := 641) X (by omega) (by omega) dL_law_634 (by decide) (fun c40 => by exfalso; omega) (fun c40 => ?_)
        refine ri_const X (v := 1) dL_law_637 ?_
        refine lv_goto (tgt := 642) X.1 X.2.1 dL_law_638 (by decide) ?_
        refine lv_istore (lv' := [(6, .int (iI 1)), (12, .int (iI ((U.1 61 0) + (U.1 62 0)))), (11, .int (iI (U.1 57 0))), (10, .int (iI (U.1 58 0))), (9, .int (iI (U.1 52 0))), (0, .ref b), (1, .ref (G.2.2 0)), (2, .ref (G.2.2 57)), (3, .ref (G.2.2 58)), (4, .ref (G.2.2 59)), (5, .ref (G.2.2 60))]) X.1 X.2.1 dL_law_642 hl (by decide) rfl (fun ls hl => ?_)
        refine ri_const X (v := 0) dL_law_644 ?_
        refine lv_istore (lv' := [(13, .int (iI 0)), (6, .int (iI 1)), (12, .int (iI ((U.1 61 0) + (U.1 62 0)))), (11, .int (iI (U.1 57 0))), (10, .int (iI (U.1 58 0))), (9, .int (iI (U.1 52 0))), (0, .ref b), (1, .ref (G.2.2 0)), (2, .ref (G.2.2 57)), (3, .ref (G.2.2 58)), (4, .ref (G.2.2 59)), (5, .ref (G.2.2 60))]) X.1 X.2.1 dL_law_645 hl (by decide) rfl (fun ls hl => ?_)
        have lp_647 : ∀ (fu_ : Nat) (k_ : Nat) (U2 : St), 9 - k_ < fu_ → ∀ (hk : (k_ : Int) ≤ T 0) (hA : AR T Y V HD U2) (hI : LI T Y (fun _ => 0) (fun _ => 0) (6 + T 0) (2 + 1) 3 0 h U2) (H : Heap) (locs : List Loc), In (KL (aS s) G) s s.heap H locs U2 → ∀ ls : Array Slot, lv_has ls 14 [(0, .ref b), (1, .ref (G.2.2 0)), (2, .ref (G.2.2 57)), (3, .ref (G.2.2 58)), (4, .ref (G.2.2 59)), (5, .ref (G.2.2 60)), (6, .int (iI 1)), (9, .int (iI (U.1 52 0))), (10, .int (iI (U.1 58 0))), (11, .int (iI (U.1 57 0))), (12, .int (iI ((U.1 61 0) + (U.1 62 0)))), (13, .int (iI ((k_ : Nat) : Int)))] → LG_ p l e s m below meth c b H locs (F0 m 647 ls []) := by
          intro fu_
          induction fu_ with
          | zero => intro k_ U2 hm; exact absurd hm (by omega)
          | succ fu_ ih_647 =>
            intro k_ U2 hm_647 hk hA hI H locs I ls hl
            refine lv_iload X.1 X.2.1 dL_law_647 (lv_at hl 11 rfl) ?_
            refine lv_aload_n X.1 X.2.1 dL_law_649 rfl (lv_at hl 2 rfl) ?_
            refine ri_const X (v := 0) dL_law_650 ?_
            refine aL_lt X I (v := (T 0)) (hA.1 0) (by omega) dL_law_651 ?_
            refine rj_ge (tgt := 711) X (by omega) (by omega) dL_law_652 (by decide) (fun c41 => ?_) (fun c41 => ?_)
            · skip
              refine lv_iload X.1 X.2.1 dL_law_711 (lv_at hl 6 rfl) ?_
              refine va_forget (fun q_ hq_ => I.2.2.2.1.2.2 q_ hq_) ?_
              refine W.widen (k := 600000) (n := 7302250) (Nat.le_of_ble_eq_true rfl) (Nat.le_of_ble_eq_true rfl) ?_
              rw [show iI 1 = (1 : Int32) from rfl]
              exact lw_ret X.1 X.2.1 hr hlk dL_law_713
            · skip
              refine lv_iload X.1 X.2.1 dL_law_655 (lv_at hl 6 rfl) ?_
              refine rz_eq (tgt := 711) X (by omega) dL_law_657 (by decide) (fun c42 => by exfalso; omega) (fun c42 => ?_)
              have hq_ := hd k_ (by omega) (by omega)
              refine lv_aload X.1 X.2.1 dL_law_660 (lv_at hl 5 rfl) ?_
              refine ri_push X (v := 16) (by decide) dL_law_662 ?_
              refine lv_iload X.1 X.2.1 dL_law_664 (lv_at hl 11 rfl) ?_
              refine ri_add X (v := (16 + ((k_ : Nat) : Int))) rfl dL_law_666 ?_
              refine aL_lhad X I (v := (HD (16 + ((k_ : Nat) : Int)))) (hA.2.2.2 (16 + ((k_ : Nat) : Int))) (by omega) dL_law_667 ?_
              refine lv_iload X.1 X.2.1 dL_law_668 (lv_at hl 7 rfl) ?_
              refine rj_ge (tgt := 702) X (by omega) (by omega) dL_law_670 (by decide) (fun c43 => by exfalso; omega) (fun c43 => ?_)
              refine lv_aload_n X.1 X.2.1 dL_law_673 rfl (lv_at hl 1 rfl) ?_
              refine lv_iload X.1 X.2.1 dL_law_674 (lv_at hl 11 rfl) ?_
              refine ri_const X (v := 2) dL_law_676 ?_
              refine clx_i I (runV (As := [.int (iI ((k_ : Nat) : Int)), .int (iI 2)]) (rest := []) X (k_X9_name l G U2 ((k_ : Nat) : Int) 2 (by omega) (by omega) 600 hI.1) (gdC tb_421 (gdC tb_422 (gdC tb_423 (gdC tb_14 (gdC tb_424 gdB))))) ⟨ok_X9_name, ⟨Nat.le_of_ble_eq_true rfl, Nat.le_of_ble_eq_true rfl⟩, rfl, rfl⟩ (PreV.ofL I) rfl hl.1 rfl (Nat.le_of_ble_eq_true rfl) dL_law_677 ⟨Nat.le_of_ble_eq_true rfl, Nat.le_of_ble_eq_true rfl⟩) (fun _ _ q_ => f7_name q_) (fun r44 S45 H locs q46 I => ?_)
              have hA := AR_fr (f7_name q46) hA
              obtain ⟨e_, es_⟩ := nam_2 hI (by omega) q46
              rw [es_] at I hA
              subst e_
              try clear q46
              refine lv_iload X.1 X.2.1 dL_law_680 (lv_at hl 7 rfl) ?_
              refine lv_iload X.1 X.2.1 dL_law_682 (lv_at hl 11 rfl) ?_
              refine ri_add X (v := ((U.1 52 0) + ((k_ : Nat) : Int))) rfl dL_law_684 ?_
              refine rj_ne (tgt := 702) X (by omega) (by omega) dL_law_685 (by decide) (fun c47 => by exfalso; omega) (fun c47 => ?_)
              refine lv_aload_n X.1 X.2.1 dL_law_688 rfl (lv_at hl 1 rfl) ?_
              refine lv_iload X.1 X.2.1 dL_law_689 (lv_at hl 11 rfl) ?_
              refine ri_const X (v := 3) dL_law_691 ?_
              refine clx_i I (runV (As := [.int (iI ((k_ : Nat) : Int)), .int (iI 3)]) (rest := []) X (k_X9_name l G U2 ((k_ : Nat) : Int) 3 (by omega) (by omega) 600 hI.1) (gdC tb_421 (gdC tb_422 (gdC tb_423 (gdC tb_14 (gdC tb_424 gdB))))) ⟨ok_X9_name, ⟨Nat.le_of_ble_eq_true rfl, Nat.le_of_ble_eq_true rfl⟩, rfl, rfl⟩ (PreV.ofL I) rfl hl.1 rfl (Nat.le_of_ble_eq_true rfl) dL_law_692 ⟨Nat.le_of_ble_eq_true rfl, Nat.le_of_ble_eq_true rfl⟩) (fun _ _ q_ => f7_name q_) (fun r48 S49 H locs q50 I => ?_)
              have hA := AR_fr (f7_name q50) hA
              obtain ⟨e_, es_⟩ := nam_3 hI (by omega) q50
              rw [es_] at I hA
              have e2_ : r48 = 0 := e_
              subst e2_
              try clear q50
              refine rz_ne (tgt := 702) X (by omega) dL_law_695 (by decide) (fun c51 => by exfalso; omega) (fun c51 => ?_)
              refine ri_const X (v := 1) dL_law_698 ?_
              refine lv_goto (tgt := 703) X.1 X.2.1 dL_law_699 (by decide) ?_
              refine lv_istore (lv' := [(6, .int (iI 1)), (0, .ref b), (1, .ref (G.2.2 0)), (2, .ref (G.2.2 57)), (3, .ref (G.2.2 58)), (4, .ref (G.2.2 59)), (5, .ref (G.2.2 60)), (9, .int (iI (U.1 52 0))), (10, .int (iI (U.1 58 0))), (11, .int (iI (U.1 57 0))), (12, .int (iI ((U.1 61 0) + (U.1 62 0)))), (13, .int (iI ((k_ : Nat) : Int)))]) X.1 X.2.1 dL_law_703 hl (by decide) rfl (fun ls hl => ?_)
              refine ri_iinc X (k := 11) (v := (((k_ : Nat) : Int) + 1)) (lv' := [(13, .int (iI (((k_ : Nat) : Int) + 1))), (6, .int (iI 1)), (0, .ref b), (1, .ref (G.2.2 0)), (2, .ref (G.2.2 57)), (3, .ref (G.2.2 58)), (4, .ref (G.2.2 59)), (5, .ref (G.2.2 60)), (9, .int (iI (U.1 52 0))), (10, .int (iI (U.1 58 0))), (11, .int (iI (U.1 57 0))), (12, .int (iI ((U.1 61 0) + (U.1 62 0))))]) rfl dL_law_705 hl rfl (by decide) rfl (fun ls hl => ?_)
              refine lv_goto (tgt := 647) X.1 X.2.1 dL_law_708 (by decide) ?_
              have hl : lv_has ls 14 [(13, .int (iI (((k_ + 1) : Nat) : Int))), (6, .int (iI 1)), (0, .ref b), (1, .ref (G.2.2 0)), (2, .ref (G.2.2 57)), (3, .ref (G.2.2 58)), (4, .ref (G.2.2 59)), (5, .ref (G.2.2 60)), (9, .int (iI (U.1 52 0))), (10, .int (iI (U.1 58 0))), (11, .int (iI (U.1 57 0))), (12, .int (iI ((U.1 61 0) + (U.1 62 0))))] := by
                have e_ : (((k_ : Nat) : Int) + 1) = (((k_ + 1) : Nat) : Int) := (by omega)
                rw [← e_]; exact hl
              exact ih_647 (k_ + 1) U2 (by omega) (by omega) (hA) (hI) _ _ I ls (lv_sub hl [2, 3, 4, 5, 6, 7, 1, 8, 9, 10, 11, 0] rfl)
        have hl : lv_has ls 14 [(13, .int (iI ((0 : Nat) : Int))), (6, .int (iI 1)), (12, .int (iI ((U.1 61 0) + (U.1 62 0)))), (11, .int (iI (U.1 57 0))), (10, .int (iI (U.1 58 0))), (9, .int (iI (U.1 52 0))), (0, .ref b), (1, .ref (G.2.2 0)), (2, .ref (G.2.2 57)), (3, .ref (G.2.2 58)), (4, .ref (G.2.2 59)), (5, .ref (G.2.2 60))] := by
          have e_ : 0 = ((0 : Nat) : Int) := rfl
          rw [← e_]; exact hl
        exact lp_647 (10) 0 S19 (by omega) (by omega) (hA) (hI) _ _ I ls (lv_sub hl [6, 7, 8, 9, 10, 11, 1, 5, 4, 3, 2, 0] rfl)
      · skip
        refine lv_aload X.1 X.2.1 dL_law_510 (lv_at hl 5 rfl) ?_
        refine ri_push X (v := 16) (by decide) dL_law_512 ?_
        refine lv_iload X.1 X.2.1 dL_law_514 (lv_at hl 7 rfl) ?_
        refine ri_add X (v := (16 + ((n_ : Nat) : Int))) rfl dL_law_516 ?_
        refine lv_aload_n X.1 X.2.1 dL_law_517 rfl (lv_at hl 1 rfl) ?_
        refine lv_iload X.1 X.2.1 dL_law_518 (lv_at hl 7 rfl) ?_
        refine ri_const X (v := 2) dL_law_520 ?_
        refine clx_i I (runV (As := [.int (iI ((n_ : Nat) : Int)), .int (iI 2)]) (rest := [.int (iI (16 + ((n_ : Nat) : Int))), .ref (G.2.2 60)]) X (k_X9_name l G U ((n_ : Nat) : Int) 2 (by omega) (by omega) 600 hI.1) (gdC tb_421 (gdC tb_422 (gdC tb_423 (gdC tb_14 (gdC tb_424 gdB))))) ⟨ok_X9_name, ⟨Nat.le_of_ble_eq_true rfl, Nat.le_of_ble_eq_true rfl⟩, rfl, rfl⟩ (PreV.ofL I) rfl hl.1 rfl (Nat.le_of_ble_eq_true rfl) dL_law_521 ⟨Nat.le_of_ble_eq_true rfl, Nat.le_of_ble_eq_true rfl⟩) (fun _ _ q_ => f7_name q_) (fun r52 S53 H locs q54 I => ?_)
        have hA := AR_fr (f7_name q54) hA
        obtain ⟨e_, es_⟩ := nam_2 hI (by omega) q54
        rw [es_] at I hA
        subst e_
        try clear q54
        refine qL_lhad X I (by omega) dL_law_524 (fun H locs I => ?_)
        obtain ⟨S55, hS55⟩ : ∃ u_ : St, u_ = (ua U.1 73 (16 + ((n_ : Nat) : Int)) (6 + ((n_ : Nat) : Int)), U.2) := ⟨_, rfl⟩
        rw [← hS55] at I
        have hA := AR_lhad (z := (16 + ((n_ : Nat) : Int))) (v := (6 + ((n_ : Nat) : Int))) hA hS55
        have hI := LI_ar (by decide) (by omega) hI hS55
        refine ri_iinc X (k := 7) (v := (((n_ : Nat) : Int) + 1)) (lv' := [(9, .int (iI (((n_ : Nat) : Int) + 1))), (0, .ref b), (1, .ref (G.2.2 0)), (2, .ref (G.2.2 57)), (3, .ref (G.2.2 58)), (4, .ref (G.2.2 59)), (5, .ref (G.2.2 60)), (6, .int (iI 1))]) rfl dL_law_525 hl rfl (by decide) rfl (fun ls hl => ?_)
        refine lv_goto (tgt := 502) X.1 X.2.1 dL_law_528 (by decide) ?_
        have hl : lv_has ls 14 [(9, .int (iI (((n_ + 1) : Nat) : Int))), (0, .ref b), (1, .ref (G.2.2 0)), (2, .ref (G.2.2 57)), (3, .ref (G.2.2 58)), (4, .ref (G.2.2 59)), (5, .ref (G.2.2 60)), (6, .int (iI 1))] := by
          have e_ : (((n_ : Nat) : Int) + 1) = (((n_ + 1) : Nat) : Int) := (by omega)
          rw [← e_]; exact hl
        exact ih_502 (n_ + 1) S55 ((uf HD (16 + ((n_ : Nat) : Int)) (6 + ((n_ : Nat) : Int)))) (by omega) (by omega) (hA) (hI) (fun i_ a_ b_ => by
                        rcases Int.lt_or_le i_ n_ with z_ | z_
                        · rw [uf_ne (by omega)]; exact hd i_ a_ z_
                        · rw [show i_ = (n_ : Int) by omega, uf_eq]) _ _ I ls (lv_sub hl [1, 2, 3, 4, 5, 6, 7, 0] rfl)
  have hl : lv_has ls 14 [(9, .int (iI ((0 : Nat) : Int))), (0, .ref b), (1, .ref (G.2.2 0)), (2, .ref (G.2.2 57)), (3, .ref (G.2.2 58)), (4, .ref (G.2.2 59)), (5, .ref (G.2.2 60)), (6, .int (iI 1))] := by
    have e_ : 0 = ((0 : Nat) : Int) := rfl
    rw [← e_]; exact hl
  exact lp_502 (10) 0 S HD (by omega) (by omega) (hA) (hI) (fun i_ a_ b_ => absurd b_ (by omega)) _ _ I ls (lv_sub hl [1, 2, 3, 4, 5, 6, 7, 0] rfl)
set_option maxRecDepth 100000 in
set_option maxHeartbeats 4000000 in
theorem law_P4 {p : Program} {l : Launch} {e : Env} {s : State} {m : MethodId} {below : List Frame} {meth : Method} {c : Code} {b L : Nat} {xs : Nat → Int32} {G : Ge} (X : CallFix p m c cL_law 14 s #[Value.ref b] TB "NameSeekerLaw") (hr : meth.sig.returnType = ret) (hlk : meth.locks = false) (hE : XS b L xs s) (hL : L ≤ 260) (hbA : ¬ aS s b)  {S : St} (T Y V HD PK : Int → Int) (y h : Int) (nn : Nat) (hA : AR T Y V HD S) (hT : TOK T Y) (hnn : nn ≤ 6) (hw : WA V y nn) (hd : ∀ j_ : Nat, j_ ≤ nn → HD j_ = psb (PSs T Y (VW y j_)) (T 0).toNat ∧ HD (8 + (j_ : Int)) = psb (fun y_ => ¬ SC T Y (VW y j_) y_ = -4) (T 0).toNat) (hI : LI T Y V PK 6 2 3 0 h S) (hh : h ≤ 900) {H : Heap} {locs : List Loc} (I : In (KL (aS s) G) s s.heap H locs S) {ls : Array Slot} (hl : lv_has ls 14 [(0, .ref b), (1, .ref (G.2.2 0)), (2, .ref (G.2.2 57)), (3, .ref (G.2.2 58)), (4, .ref (G.2.2 59)), (5, .ref (G.2.2 60)), (6, .int (iI 1)), (8, .int (iI ((nn : Nat) : Int)))]) : LG_ p l e s m below meth c b H locs (F0 m 367 ls []) := by
  have hT0 := hT.1
  have hV := WA_ok (by omega) hw
  refine lv_iload X.1 X.2.1 dL_law_367 (lv_at hl 6 rfl) ?_
  refine rz_eq (tgt := 395) X (by omega) dL_law_369 (by decide) (fun c1 => by exfalso; omega) (fun c1 => ?_)
  refine lv_aload_n X.1 X.2.1 dL_law_372 rfl (lv_at hl 1 rfl) ?_
  refine lv_aload_n X.1 X.2.1 dL_law_373 rfl (lv_at hl 0 rfl) ?_
  refine ri_push X (v := 28) (by decide) dL_law_374 ?_
  refine cl_cell X I hE hbA hL (k := 28) (by omega) hl.1 (Nat.le_of_ble_eq_true rfl) (Nat.le_of_ble_eq_true rfl) (Nat.le_of_ble_eq_true rfl) ⟨Nat.le_of_ble_eq_true rfl, Nat.le_of_ble_eq_true rfl⟩ dL_law_376 (fun z2 H locs hz2 I => ?_)
  refine lv_aload_n X.1 X.2.1 dL_law_379 rfl (lv_at hl 2 rfl) ?_
  refine ri_const X (v := 0) dL_law_380 ?_
  refine aL_lt X I (v := (T 0)) (hA.1 0) (by omega) dL_law_381 ?_
  refine ri_rem X (v := (z2 % (T 0))) rfl (by omega) (by omega) dL_law_382 ?_
  have hm_ : 0 ≤ (z2 % (T 0)) ∧ (z2 % (T 0)) < T 0 := ⟨Int.emod_nonneg _ (by omega), Int.emod_lt_of_pos _ (by omega)⟩
  refine lv_aload X.1 X.2.1 dL_law_383 (lv_at hl 4 rfl) ?_
  refine cl_i I (runS (As := [.ref (G.2.2 0), .int (iI (z2 % (T 0))), .ref (G.2.2 59)]) (rest := []) X (k_L_first l (aS s) G S T Y V HD PK 6 2 3 h (z2 % (T 0)) hA hT hV hI hm_ (by omega)) (gdC tb_642 gdB) tb_640 tb_641 tb_13 ⟨ok_L_first, ⟨Nat.le_of_ble_eq_true rfl, Nat.le_of_ble_eq_true rfl⟩, rfl, rfl⟩ (PreS.of I) rfl hl.1 rfl (Nat.le_of_ble_eq_true rfl) dL_law_385 ⟨Nat.le_of_ble_eq_true rfl, Nat.le_of_ble_eq_true rfl⟩) (fun r3 S4 H locs q5 I => ?_)
  obtain ⟨e_, hI, hA⟩ := q5
  subst e_
  refine rz_eq (tgt := 395) X (by omega) dL_law_388 (by decide) (fun c6 => by exfalso; omega) (fun c6 => ?_)
  refine ri_const X (v := 1) dL_law_391 ?_
  refine lv_goto (tgt := 396) X.1 X.2.1 dL_law_392 (by decide) ?_
  refine lv_istore (lv' := [(6, .int (iI 1)), (0, .ref b), (1, .ref (G.2.2 0)), (2, .ref (G.2.2 57)), (3, .ref (G.2.2 58)), (4, .ref (G.2.2 59)), (5, .ref (G.2.2 60)), (8, .int (iI ((nn : Nat) : Int)))]) X.1 X.2.1 dL_law_396 hl (by decide) rfl (fun ls hl => ?_)
  have hI := LI_VW hw hI
  refine lv_iload X.1 X.2.1 dL_law_398 (lv_at hl 7 rfl) ?_
  refine lv_istore (lv' := [(9, .int (iI ((nn : Nat) : Int))), (6, .int (iI 1)), (0, .ref b), (1, .ref (G.2.2 0)), (2, .ref (G.2.2 57)), (3, .ref (G.2.2 58)), (4, .ref (G.2.2 59)), (5, .ref (G.2.2 60)), (8, .int (iI ((nn : Nat) : Int)))]) X.1 X.2.1 dL_law_400 hl (by decide) rfl (fun ls hl => ?_)
  have lp_402 : ∀ (fu_ : Nat) (k_ : Nat) (U : St), k_ < fu_ → ∀ (hk : k_ ≤ nn) (hA : AR T Y V HD U) (hI : LI T Y (VW y k_) PK 6 2 3 0 (h + 8) U) (H : Heap) (locs : List Loc), In (KL (aS s) G) s s.heap H locs U → ∀ ls : Array Slot, lv_has ls 14 [(0, .ref b), (1, .ref (G.2.2 0)), (2, .ref (G.2.2 57)), (3, .ref (G.2.2 58)), (4, .ref (G.2.2 59)), (5, .ref (G.2.2 60)), (6, .int (iI 1)), (8, .int (iI ((nn : Nat) : Int))), (9, .int (iI ((k_ : Nat) : Int)))] → LG_ p l e s m below meth c b H locs (F0 m 402 ls []) := by
    intro fu_
    induction fu_ with
    | zero => intro k_ U hm; exact absurd hm (by omega)
    | succ fu_ ih_402 =>
      intro k_ U hm_402 hk hA hI H locs I ls hl
      refine lv_iload X.1 X.2.1 dL_law_402 (lv_at hl 8 rfl) ?_
      refine rz_le (tgt := 466) X (by omega) dL_law_404 (by decide) (fun c7 => ?_) (fun c7 => ?_)
      · skip
        obtain ⟨hd1_, hd2_⟩ := hd 0 (by omega)
        have hk0 : k_ = 0 := by omega
        rw [hk0] at hI
        have hd1_ : HD 0 = psb (PSs T Y (VW y ((0 : Nat) : Int))) (T 0).toNat := hd1_
        refine lv_iload X.1 X.2.1 dL_law_466 (lv_at hl 6 rfl) ?_
        refine rz_eq (tgt := 496) X (by omega) dL_law_468 (by decide) (fun c8 => by exfalso; omega) (fun c8 => ?_)
        refine lv_aload_n X.1 X.2.1 dL_law_471 rfl (lv_at hl 1 rfl) ?_
        refine ri_const X (v := 0) dL_law_472 ?_
        refine clx_i I (runV (As := [.int (iI 0)]) (rest := []) X (k_X9_passes l G U 0 (by omega) 600 hI.1) (gdC tb_449 (gdC tb_450 (gdC tb_451 (gdC tb_14 (gdC tb_452 gdB))))) ⟨ok_X9_passes, ⟨Nat.le_of_ble_eq_true rfl, Nat.le_of_ble_eq_true rfl⟩, rfl, rfl⟩ (PreV.ofL I) rfl hl.1 rfl (Nat.le_of_ble_eq_true rfl) dL_law_473 ⟨Nat.le_of_ble_eq_true rfl, Nat.le_of_ble_eq_true rfl⟩) (fun _ _ q_ => f7_passes q_) (fun r9 S10 H locs q11 I => ?_)
        have hA := AR_fr (f7_passes q11) hA
        obtain ⟨e_, hI, -, -⟩ := op_passes0 (VW_ok (by omega)) hI (by omega) q11
        have pr12 := psb_r (PSs T Y (VW y ((0 : Nat) : Int))) (T 0).toNat (by omega)
        subst e_
        try clear q11
        refine lv_aload X.1 X.2.1 dL_law_476 (lv_at hl 5 rfl) ?_
        refine ri_const X (v := 0) dL_law_478 ?_
        refine aL_lhad X I (v := (HD 0)) (hA.2.2.2 0) (by omega) dL_law_479 ?_
        refine rj_ne (tgt := 496) X (by omega) (by omega) dL_law_480 (by decide) (fun c13 => by exfalso; omega) (fun c13 => ?_)
        refine lv_aload_n X.1 X.2.1 dL_law_483 rfl (lv_at hl 1 rfl) ?_
        refine ri_push X (v := 12) (by decide) dL_law_484 ?_
        refine clx_i I (runV (As := [.int (iI 12)]) (rest := []) X (k_X9_count l G S10 12 (by omega) 600 hI.1) (gdC tb_470 (gdC tb_471 (gdC tb_472 (gdC tb_14 (gdC tb_473 gdB))))) ⟨ok_X9_count, ⟨Nat.le_of_ble_eq_true rfl, Nat.le_of_ble_eq_true rfl⟩, rfl, rfl⟩ (PreV.ofL I) rfl hl.1 rfl (Nat.le_of_ble_eq_true rfl) dL_law_486 ⟨Nat.le_of_ble_eq_true rfl, Nat.le_of_ble_eq_true rfl⟩) (fun _ _ q_ => f7_count q_) (fun r14 S15 H locs q16 I => ?_)
        have hA := AR_fr (f7_count q16) hA
        obtain ⟨e_, es_⟩ := cnt_12 (VW_ok (by omega)) hI q16
        rw [es_] at I hA
        have e2_ : r14 = 0 := by rw [e_, CD_e (by rw [VW_h]; omega)]; rfl
        subst e2_
        try clear q16
        refine rz_ne (tgt := 496) X (by omega) dL_law_489 (by decide) (fun c17 => by exfalso; omega) (fun c17 => ?_)
        refine ri_const X (v := 1) dL_law_492 ?_
        refine lv_goto (tgt := 497) X.1 X.2.1 dL_law_493 (by decide) ?_
        refine lv_istore (lv' := [(6, .int (iI 1)), (0, .ref b), (1, .ref (G.2.2 0)), (2, .ref (G.2.2 57)), (3, .ref (G.2.2 58)), (4, .ref (G.2.2 59)), (5, .ref (G.2.2 60)), (8, .int (iI ((nn : Nat) : Int))), (9, .int (iI ((k_ : Nat) : Int)))]) X.1 X.2.1 dL_law_497 hl (by decide) rfl (fun ls hl => ?_)
        exact law_P5 X hr hlk hE hL hbA T Y V _ HD PK (h + 8) hA hT hI (by omega) I (lv_sub hl [1, 2, 3, 4, 5, 6, 0] rfl)
      · skip
        obtain ⟨hd1_, hd2_⟩ := hd k_ (by omega)
        refine lv_iload X.1 X.2.1 dL_law_407 (lv_at hl 6 rfl) ?_
        refine rz_eq (tgt := 466) X (by omega) dL_law_409 (by decide) (fun c18 => by exfalso; omega) (fun c18 => ?_)
        refine lv_aload_n X.1 X.2.1 dL_law_412 rfl (lv_at hl 1 rfl) ?_
        refine ri_const X (v := 0) dL_law_413 ?_
        refine clx_i I (runV (As := [.int (iI 0)]) (rest := []) X (k_X9_passes l G U 0 (by omega) 600 hI.1) (gdC tb_449 (gdC tb_450 (gdC tb_451 (gdC tb_14 (gdC tb_452 gdB))))) ⟨ok_X9_passes, ⟨Nat.le_of_ble_eq_true rfl, Nat.le_of_ble_eq_true rfl⟩, rfl, rfl⟩ (PreV.ofL I) rfl hl.1 rfl (Nat.le_of_ble_eq_true rfl) dL_law_414 ⟨Nat.le_of_ble_eq_true rfl, Nat.le_of_ble_eq_true rfl⟩) (fun _ _ q_ => f7_passes q_) (fun r19 S20 H locs q21 I => ?_)
        have hA := AR_fr (f7_passes q21) hA
        obtain ⟨e_, hI, -, -⟩ := op_passes0 (VW_ok (by omega)) hI (by omega) q21
        have pr22 := psb_r (PSs T Y (VW y k_)) (T 0).toNat (by omega)
        subst e_
        try clear q21
        refine lv_aload X.1 X.2.1 dL_law_417 (lv_at hl 5 rfl) ?_
        refine lv_iload X.1 X.2.1 dL_law_419 (lv_at hl 8 rfl) ?_
        refine aL_lhad X I (v := (HD ((k_ : Nat) : Int))) (hA.2.2.2 ((k_ : Nat) : Int)) (by omega) dL_law_421 ?_
        refine rj_ne (tgt := 457) X (by omega) (by omega) dL_law_422 (by decide) (fun c23 => by exfalso; omega) (fun c23 => ?_)
        refine lv_aload_n X.1 X.2.1 dL_law_425 rfl (lv_at hl 1 rfl) ?_
        refine ri_const X (v := 1) dL_law_426 ?_
        refine clx_i I (runV (As := [.int (iI 1)]) (rest := []) X (k_X9_passes l G S20 1 (by omega) 600 hI.1) (gdC tb_449 (gdC tb_450 (gdC tb_451 (gdC tb_14 (gdC tb_452 gdB))))) ⟨ok_X9_passes, ⟨Nat.le_of_ble_eq_true rfl, Nat.le_of_ble_eq_true rfl⟩, rfl, rfl⟩ (PreV.ofL I) rfl hl.1 rfl (Nat.le_of_ble_eq_true rfl) dL_law_427 ⟨Nat.le_of_ble_eq_true rfl, Nat.le_of_ble_eq_true rfl⟩) (fun _ _ q_ => f7_passes q_) (fun r24 S25 H locs q26 I => ?_)
        have hA := AR_fr (f7_passes q26) hA
        obtain ⟨e_, hI, -, -⟩ := op_passes1 hT (VW_ok (by omega)) hI (by omega) q26
        have pr27 := psb_r (fun y_ => ¬ SC T Y (VW y k_) y_ = -4) (T 0).toNat (by omega)
        subst e_
        try clear q26
        refine lv_aload X.1 X.2.1 dL_law_430 (lv_at hl 5 rfl) ?_
        refine ri_push X (v := 8) (by decide) dL_law_432 ?_
        refine lv_iload X.1 X.2.1 dL_law_434 (lv_at hl 8 rfl) ?_
        refine ri_add X (v := (8 + ((k_ : Nat) : Int))) rfl dL_law_436 ?_
        refine aL_lhad X I (v := (HD (8 + ((k_ : Nat) : Int)))) (hA.2.2.2 (8 + ((k_ : Nat) : Int))) (by omega) dL_law_437 ?_
        refine rj_ne (tgt := 457) X (by omega) (by omega) dL_law_438 (by decide) (fun c28 => by exfalso; omega) (fun c28 => ?_)
        refine lv_aload_n X.1 X.2.1 dL_law_441 rfl (lv_at hl 1 rfl) ?_
        refine clx_i I (runV (As := []) (rest := []) X (k_X9_untype l G S25   600 hI.1) (gdC tb_437 (gdC tb_438 (gdC tb_439 (gdC tb_14 (gdC tb_440 gdB))))) ⟨ok_X9_untype, ⟨Nat.le_of_ble_eq_true rfl, Nat.le_of_ble_eq_true rfl⟩, rfl, rfl⟩ (PreV.ofL I) rfl hl.1 rfl (Nat.le_of_ble_eq_true rfl) dL_law_442 ⟨Nat.le_of_ble_eq_true rfl, Nat.le_of_ble_eq_true rfl⟩) (fun _ _ q_ => f7_untype q_) (fun r29 S30 H locs q31 I => ?_)
        have hA := AR_fr (f7_untype q31) hA
        obtain ⟨e_, -, hI, -⟩ := op_untype (V2 := VW y ((k_ - 1 : Nat) : Int)) (VW_ok (by omega)) hI (by rw [VW_h]; omega) ⟨by rw [VW_h, VW_h]; omega, fun j_ a_ b_ => by rw [VW_k (by omega), VW_k (by omega)]⟩ q31
        have hlt_ : V (k_ : Int) = lt8 (shr y (3 * (k_ : Int)) % 8) := hw.2 _ (by omega) (by omega)
        rw [VW_h, VW_k (by omega), ← hlt_] at e_
        subst e_
        have hl8_ := lt8_l (v := shr y (3 * (k_ : Int)) % 8) (by omega)
        rw [← hlt_] at hl8_
        unfold ltr at hl8_
        try clear q31
        refine lv_aload X.1 X.2.1 dL_law_445 (lv_at hl 4 rfl) ?_
        refine lv_iload X.1 X.2.1 dL_law_447 (lv_at hl 8 rfl) ?_
        refine aL_lw X I (v := (V ((k_ : Nat) : Int))) (hA.2.2.1 ((k_ : Nat) : Int)) (by omega) dL_law_449 ?_
        refine rj_ne (tgt := 457) X (by omega) (by omega) dL_law_450 (by decide) (fun c32 => by exfalso; omega) (fun c32 => ?_)
        refine ri_const X (v := 1) dL_law_453 ?_
        refine lv_goto (tgt := 458) X.1 X.2.1 dL_law_454 (by decide) ?_
        refine lv_istore (lv' := [(6, .int (iI 1)), (0, .ref b), (1, .ref (G.2.2 0)), (2, .ref (G.2.2 57)), (3, .ref (G.2.2 58)), (4, .ref (G.2.2 59)), (5, .ref (G.2.2 60)), (8, .int (iI ((nn : Nat) : Int))), (9, .int (iI ((k_ : Nat) : Int)))]) X.1 X.2.1 dL_law_458 hl (by decide) rfl (fun ls hl => ?_)
        refine ri_iinc X (k := 8) (v := (((k_ : Nat) : Int) + (-1))) (lv' := [(9, .int (iI (((k_ : Nat) : Int) + (-1)))), (6, .int (iI 1)), (0, .ref b), (1, .ref (G.2.2 0)), (2, .ref (G.2.2 57)), (3, .ref (G.2.2 58)), (4, .ref (G.2.2 59)), (5, .ref (G.2.2 60)), (8, .int (iI ((nn : Nat) : Int)))]) rfl dL_law_460 hl rfl (by decide) rfl (fun ls hl => ?_)
        refine lv_goto (tgt := 402) X.1 X.2.1 dL_law_463 (by decide) ?_
        have hl : lv_has ls 14 [(9, .int (iI (((k_ - 1) : Nat) : Int))), (6, .int (iI 1)), (0, .ref b), (1, .ref (G.2.2 0)), (2, .ref (G.2.2 57)), (3, .ref (G.2.2 58)), (4, .ref (G.2.2 59)), (5, .ref (G.2.2 60)), (8, .int (iI ((nn : Nat) : Int)))] := by
          have e_ : (((k_ : Nat) : Int) + (-1)) = (((k_ - 1) : Nat) : Int) := (by omega)
          rw [← e_]; exact hl
        exact ih_402 (k_ - 1) S30 (by omega) (by omega) (hA) (hI) _ _ I ls (lv_sub hl [2, 3, 4, 5, 6, 7, 1, 8, 0] rfl)
  exact lp_402 (8) nn S4 (by omega) (by omega) (hA) (hI) _ _ I ls (lv_sub hl [2, 3, 4, 5, 6, 7, 1, 8, 0] rfl)
