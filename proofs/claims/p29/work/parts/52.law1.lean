set_option maxRecDepth 100000 in
set_option maxHeartbeats 4000000 in
theorem law_P2 {p : Program} {l : Launch} {e : Env} {s : State} {m : MethodId} {below : List Frame} {meth : Method} {c : Code} {b L : Nat} {xs : Nat → Int32} {G : Ge} (X : CallFix p m c cL_law 14 s #[Value.ref b] TB "NameSeekerLaw") (hr : meth.sig.returnType = ret) (hlk : meth.locks = false) (hE : XS b L xs s) (hL : L ≤ 260) (hbA : ¬ aS s b)  {S : St} (T Y V HD : Int → Int) (hA : AR T Y V HD S) (hT : TOK T Y) (hv0 : V 0 = 0) (hI : LI T Y V (fun _ => 0) 6 2 0 0 0 S) {H : Heap} {locs : List Loc} (I : In (KL (aS s) G) s s.heap H locs S) {ls : Array Slot} (hl : lv_has ls 14 [(0, .ref b), (1, .ref (G.2.2 0)), (2, .ref (G.2.2 57)), (3, .ref (G.2.2 58)), (4, .ref (G.2.2 59)), (5, .ref (G.2.2 60)), (6, .int (iI 1))]) : LG_ p l e s m below meth c b H locs (F0 m 64 ls []) := by
  have hT0 := hT.1
  refine ri_const X (v := 0) dL_law_64 ?_
  refine lv_istore (lv' := [(7, .int (iI 0)), (0, .ref b), (1, .ref (G.2.2 0)), (2, .ref (G.2.2 57)), (3, .ref (G.2.2 58)), (4, .ref (G.2.2 59)), (5, .ref (G.2.2 60)), (6, .int (iI 1))]) X.1 X.2.1 dL_law_65 hl (by decide) rfl (fun ls hl => ?_)
  have lp_67 : ∀ (fu_ : Nat) (k_ : Nat) (U : St) (PK : Int → Int), 9 - k_ < fu_ → ∀ (hk : k_ ≤ 3) (hA : AR T Y V HD U) (hI : LI T Y V PK 6 2 (k_ : Int) 0 0 U) (hP : POK T PK (k_ : Int)) (H : Heap) (locs : List Loc), In (KL (aS s) G) s s.heap H locs U → ∀ ls : Array Slot, lv_has ls 14 [(0, .ref b), (1, .ref (G.2.2 0)), (2, .ref (G.2.2 57)), (3, .ref (G.2.2 58)), (4, .ref (G.2.2 59)), (5, .ref (G.2.2 60)), (6, .int (iI 1)), (7, .int (iI ((k_ : Nat) : Int)))] → LG_ p l e s m below meth c b H locs (F0 m 67 ls []) := by
    intro fu_
    induction fu_ with
    | zero => intro k_ U PK hm; exact absurd hm (by omega)
    | succ fu_ ih_67 =>
      intro k_ U PK hm_67 hk hA hI hP H locs I ls hl
      refine lv_iload X.1 X.2.1 dL_law_67 (lv_at hl 7 rfl) ?_
      refine ri_const X (v := 3) dL_law_69 ?_
      refine rj_ge (tgt := 140) X (by omega) (by omega) dL_law_70 (by decide) (fun c1 => ?_) (fun c1 => ?_)
      · skip
        have hk3 : k_ = 3 := by omega
        subst hk3
        exact law_P3 X hr hlk hE hL hbA T Y V HD PK hA hT hv0 hP hI I (lv_sub hl [0, 1, 2, 3, 4, 5, 6] rfl)
      · skip
        refine lv_iload X.1 X.2.1 dL_law_73 (lv_at hl 6 rfl) ?_
        refine rz_eq (tgt := 140) X (by omega) dL_law_75 (by decide) (fun c2 => by exfalso; omega) (fun c2 => ?_)
        refine lv_aload_n X.1 X.2.1 dL_law_78 rfl (lv_at hl 0 rfl) ?_
        refine ri_push X (v := 26) (by decide) dL_law_79 ?_
        refine lv_iload X.1 X.2.1 dL_law_81 (lv_at hl 7 rfl) ?_
        refine ri_add X (v := (26 + ((k_ : Nat) : Int))) rfl dL_law_83 ?_
        refine cl_cell X I hE hbA hL (k := (26 + ((k_ : Nat) : Int))) (by omega) hl.1 (Nat.le_of_ble_eq_true rfl) (Nat.le_of_ble_eq_true rfl) (Nat.le_of_ble_eq_true rfl) ⟨Nat.le_of_ble_eq_true rfl, Nat.le_of_ble_eq_true rfl⟩ dL_law_84 (fun z3 H locs hz3 I => ?_)
        refine lv_aload_n X.1 X.2.1 dL_law_87 rfl (lv_at hl 2 rfl) ?_
        refine ri_const X (v := 0) dL_law_88 ?_
        refine aL_lt X I (v := (T 0)) (hA.1 0) (by omega) dL_law_89 ?_
        refine ri_rem X (v := (z3 % (T 0))) rfl (by omega) (by omega) dL_law_90 ?_
        have hm_ : 0 ≤ (z3 % (T 0)) ∧ (z3 % (T 0)) < T 0 := ⟨Int.emod_nonneg _ (by omega), Int.emod_lt_of_pos _ (by omega)⟩
        refine lv_istore (lv' := [(8, .int (iI (z3 % (T 0)))), (0, .ref b), (1, .ref (G.2.2 0)), (2, .ref (G.2.2 57)), (3, .ref (G.2.2 58)), (4, .ref (G.2.2 59)), (5, .ref (G.2.2 60)), (6, .int (iI 1)), (7, .int (iI ((k_ : Nat) : Int)))]) X.1 X.2.1 dL_law_91 hl (by decide) rfl (fun ls hl => ?_)
        refine lv_aload_n X.1 X.2.1 dL_law_93 rfl (lv_at hl 2 rfl) ?_
        refine ri_const X (v := 5) dL_law_94 ?_
        refine clx_i I (runV (As := [.int (iI 5)]) (rest := []) X (k_X9_count l G U 5 (by omega) 600 hI.1) (gdC tb_470 (gdC tb_471 (gdC tb_472 (gdC tb_14 (gdC tb_473 gdB))))) ⟨ok_X9_count, ⟨Nat.le_of_ble_eq_true rfl, Nat.le_of_ble_eq_true rfl⟩, rfl, rfl⟩ (PreV.ofL I) rfl hl.1 rfl (Nat.le_of_ble_eq_true rfl) dL_law_95 ⟨Nat.le_of_ble_eq_true rfl, Nat.le_of_ble_eq_true rfl⟩) (fun _ _ q_ => f7_count q_) (fun r4 S5 H locs q6 I => ?_)
        have hA := AR_fr (f7_count q6) hA
        obtain ⟨e_, es_⟩ := cnt_5 q6
        rw [es_] at I hA
        rw [hI.2.2.2.2.1.2.1] at e_
        subst e_
        try clear q6
        refine lv_istore (lv' := [(9, .int (iI ((k_ : Nat) : Int))), (8, .int (iI (z3 % (T 0)))), (0, .ref b), (1, .ref (G.2.2 0)), (2, .ref (G.2.2 57)), (3, .ref (G.2.2 58)), (4, .ref (G.2.2 59)), (5, .ref (G.2.2 60)), (6, .int (iI 1)), (7, .int (iI ((k_ : Nat) : Int)))]) X.1 X.2.1 dL_law_98 hl (by decide) rfl (fun ls hl => ?_)
        refine lv_aload_n X.1 X.2.1 dL_law_100 rfl (lv_at hl 3 rfl) ?_
        refine lv_iload X.1 X.2.1 dL_law_101 (lv_at hl 1 rfl) ?_
        refine clx_i I (runV (As := [.int (iI (z3 % (T 0)))]) (rest := []) X (k_X9_pick l G U (z3 % (T 0)) (by omega) 600 hI.1) (gdC tb_445 (gdC tb_446 (gdC tb_447 (gdC tb_14 (gdC tb_448 gdB))))) ⟨ok_X9_pick, ⟨Nat.le_of_ble_eq_true rfl, Nat.le_of_ble_eq_true rfl⟩, rfl, rfl⟩ (PreV.ofL I) rfl hl.1 rfl (Nat.le_of_ble_eq_true rfl) dL_law_103 ⟨Nat.le_of_ble_eq_true rfl, Nat.le_of_ble_eq_true rfl⟩) (fun _ _ q_ => f7_pick q_) (fun r7 S8 H locs q9 I => ?_)
        have hA := AR_fr (f7_pick q9) hA
        obtain ⟨e_, hI⟩ := op_pick (PK2 := uf PK ((z3 % (T 0))) ((k_ : Int) + 1)) hI hm_ (by omega) ⟨uf_eq, fun j_ z_ => uf_ne z_⟩ q9
        subst e_
        have hP2 := POK_s (i := (z3 % (T 0))) hP
        try clear q9
        refine lv_iload X.1 X.2.1 dL_law_106 (lv_at hl 0 rfl) ?_
        refine ri_const X (v := 1) dL_law_108 ?_
        refine ri_add X (v := (((k_ : Nat) : Int) + 1)) rfl dL_law_109 ?_
        refine rj_ne (tgt := 131) X (by omega) (by omega) dL_law_110 (by decide) (fun c10 => by exfalso; omega) (fun c10 => ?_)
        refine lv_aload_n X.1 X.2.1 dL_law_113 rfl (lv_at hl 3 rfl) ?_
        refine lv_iload X.1 X.2.1 dL_law_114 (lv_at hl 1 rfl) ?_
        refine ri_const X (v := 3) dL_law_116 ?_
        refine clx_i I (runV (As := [.int (iI (z3 % (T 0))), .int (iI 3)]) (rest := []) X (k_X9_name l G S8 (z3 % (T 0)) 3 (by omega) (by omega) 600 hI.1) (gdC tb_421 (gdC tb_422 (gdC tb_423 (gdC tb_14 (gdC tb_424 gdB))))) ⟨ok_X9_name, ⟨Nat.le_of_ble_eq_true rfl, Nat.le_of_ble_eq_true rfl⟩, rfl, rfl⟩ (PreV.ofL I) rfl hl.1 rfl (Nat.le_of_ble_eq_true rfl) dL_law_117 ⟨Nat.le_of_ble_eq_true rfl, Nat.le_of_ble_eq_true rfl⟩) (fun _ _ q_ => f7_name q_) (fun r11 S12 H locs q13 I => ?_)
        have hA := AR_fr (f7_name q13) hA
        obtain ⟨e_, es_⟩ := nam_3 hI hm_ q13
        rw [es_] at I hA
        rw [uf_eq] at e_
        subst e_
        try clear q13
        refine lv_iload X.1 X.2.1 dL_law_120 (lv_at hl 0 rfl) ?_
        refine ri_const X (v := 1) dL_law_122 ?_
        refine ri_add X (v := (((k_ : Nat) : Int) + 1)) rfl dL_law_123 ?_
        refine rj_ne (tgt := 131) X (by omega) (by omega) dL_law_124 (by decide) (fun c14 => by exfalso; omega) (fun c14 => ?_)
        refine ri_const X (v := 1) dL_law_127 ?_
        refine lv_goto (tgt := 132) X.1 X.2.1 dL_law_128 (by decide) ?_
        refine lv_istore (lv' := [(6, .int (iI 1)), (9, .int (iI ((k_ : Nat) : Int))), (8, .int (iI (z3 % (T 0)))), (0, .ref b), (1, .ref (G.2.2 0)), (2, .ref (G.2.2 57)), (3, .ref (G.2.2 58)), (4, .ref (G.2.2 59)), (5, .ref (G.2.2 60)), (7, .int (iI ((k_ : Nat) : Int)))]) X.1 X.2.1 dL_law_132 hl (by decide) rfl (fun ls hl => ?_)
        refine ri_iinc X (k := 9) (v := (((k_ : Nat) : Int) + 1)) (lv' := [(7, .int (iI (((k_ : Nat) : Int) + 1))), (6, .int (iI 1)), (9, .int (iI ((k_ : Nat) : Int))), (8, .int (iI (z3 % (T 0)))), (0, .ref b), (1, .ref (G.2.2 0)), (2, .ref (G.2.2 57)), (3, .ref (G.2.2 58)), (4, .ref (G.2.2 59)), (5, .ref (G.2.2 60))]) rfl dL_law_134 hl rfl (by decide) rfl (fun ls hl => ?_)
        refine lv_goto (tgt := 67) X.1 X.2.1 dL_law_137 (by decide) ?_
        have hl : lv_has ls 14 [(7, .int (iI (((k_ + 1) : Nat) : Int))), (6, .int (iI 1)), (9, .int (iI ((k_ : Nat) : Int))), (8, .int (iI (z3 % (T 0)))), (0, .ref b), (1, .ref (G.2.2 0)), (2, .ref (G.2.2 57)), (3, .ref (G.2.2 58)), (4, .ref (G.2.2 59)), (5, .ref (G.2.2 60))] := by
          have e_ : (((k_ : Nat) : Int) + 1) = (((k_ + 1) : Nat) : Int) := (by omega)
          rw [← e_]; exact hl
        exact ih_67 (k_ + 1) S8 (uf PK ((z3 % (T 0))) ((k_ : Int) + 1)) (by omega) (by omega) (hA) (hI) (hP2) _ _ I ls (lv_sub hl [4, 5, 6, 7, 8, 9, 1, 0] rfl)
  have hl : lv_has ls 14 [(7, .int (iI ((0 : Nat) : Int))), (0, .ref b), (1, .ref (G.2.2 0)), (2, .ref (G.2.2 57)), (3, .ref (G.2.2 58)), (4, .ref (G.2.2 59)), (5, .ref (G.2.2 60)), (6, .int (iI 1))] := by
    have e_ : 0 = ((0 : Nat) : Int) := rfl
    rw [← e_]; exact hl
  exact lp_67 (10) 0 S (fun _ => 0) (by omega) (by omega) (hA) (hI) (fun i_ _ _ => ⟨⟨Int.le_refl _, Int.le_refl _⟩, fun _ _ _ _ _ => rfl⟩) _ _ I ls (lv_sub hl [1, 2, 3, 4, 5, 6, 7, 0] rfl)
set_option maxRecDepth 100000 in
set_option maxHeartbeats 4000000 in
theorem law_P1 {p : Program} {l : Launch} {e : Env} {s : State} {m : MethodId} {below : List Frame} {meth : Method} {c : Code} {b L : Nat} {xs : Nat → Int32} {G : Ge} (X : CallFix p m c cL_law 14 s #[Value.ref b] TB "NameSeekerLaw") (hr : meth.sig.returnType = ret) (hlk : meth.locks = false) (hE : XS b L xs s) (hL : L ≤ 260) (hbA : ¬ aS s b)  {S : St} (T0 Y0 V HD : Int → Int) (hA : AR T0 Y0 V HD S) (hI : LB 6 1 0 0 0 S) {H : Heap} {locs : List Loc} (I : In (KL (aS s) G) s s.heap H locs S) {ls : Array Slot} (hl : lv_has ls 14 [(0, .ref b), (1, .ref (G.2.2 0)), (2, .ref (G.2.2 57)), (3, .ref (G.2.2 58)), (4, .ref (G.2.2 59)), (5, .ref (G.2.2 60))]) : LG_ p l e s m below meth c b H locs (F0 m 30 ls []) := by
  refine lv_aload_n X.1 X.2.1 dL_law_30 rfl (lv_at hl 0 rfl) ?_
  refine ri_const X (v := 0) dL_law_31 ?_
  refine lv_aload_n X.1 X.2.1 dL_law_32 rfl (lv_at hl 2 rfl) ?_
  refine lv_aload_n X.1 X.2.1 dL_law_33 rfl (lv_at hl 3 rfl) ?_
  refine cl_v I (runS (As := [.ref b, .int (iI 0), .ref (G.2.2 57), .ref (G.2.2 58)]) (rest := []) X (k_L_draws l (aS s) G S b L xs _ _ _ _ hA hL hbA) (gdC tb_488 gdB) tb_486 tb_487 tb_13 ⟨ok_L_draws, ⟨Nat.le_of_ble_eq_true rfl, Nat.le_of_ble_eq_true rfl⟩, rfl, rfl⟩ ⟨XSW_blind, fun U hU hW => ⟨rfl, I.wc hU hW, XS_in I hE hbA hU hW⟩⟩ rfl hl.1 rfl (Nat.le_of_ble_eq_true rfl) dL_law_34 ⟨Nat.le_of_ble_eq_true rfl, Nat.le_of_ble_eq_true rfl⟩) (fun S1 H locs q2 I => ?_)
  obtain ⟨⟨T, Y, hT, hA⟩, hF2, hF⟩ := q2
  have hI := LB_fr70 hI hF2 hF
  refine lv_aload_n X.1 X.2.1 dL_law_37 rfl (lv_at hl 1 rfl) ?_
  refine lv_aload_n X.1 X.2.1 dL_law_38 rfl (lv_at hl 2 rfl) ?_
  refine lv_aload_n X.1 X.2.1 dL_law_39 rfl (lv_at hl 3 rfl) ?_
  refine cl_i I (runS (As := [.ref (G.2.2 0), .ref (G.2.2 57), .ref (G.2.2 58)]) (rest := []) X (k_L_lays l (aS s) G S1 T Y V HD 6 1 0 0 0 hA hT hI (by omega)) (gdC tb_496 gdB) tb_494 tb_495 tb_13 ⟨ok_L_lays, ⟨Nat.le_of_ble_eq_true rfl, Nat.le_of_ble_eq_true rfl⟩, rfl, rfl⟩ (PreS.of I) rfl hl.1 rfl (Nat.le_of_ble_eq_true rfl) dL_law_40 ⟨Nat.le_of_ble_eq_true rfl, Nat.le_of_ble_eq_true rfl⟩) (fun r3 S4 H locs q5 I => ?_)
  obtain ⟨e_, hI, hA, -⟩ := q5
  subst e_
  refine rz_eq (tgt := 61) X (by omega) dL_law_43 (by decide) (fun c6 => by exfalso; omega) (fun c6 => ?_)
  refine lv_aload_n X.1 X.2.1 dL_law_46 rfl (lv_at hl 1 rfl) ?_
  refine lv_aload X.1 X.2.1 dL_law_47 (lv_at hl 4 rfl) ?_
  refine ri_const X (v := 0) dL_law_49 ?_
  refine ri_const X (v := 0) dL_law_50 ?_
  refine cl_i I (runS (As := [.ref (G.2.2 0), .ref (G.2.2 59), .int (iI 0), .int (iI 0)]) (rest := []) X (k_L_types l (aS s) G S4 T Y (fun _ => 0) V HD (fun _ => 0) 6 (1 + 1) 0 0 0 hA hT ⟨by decide, fun k_ a_ b_ => absurd (show k_ < (0 : Int) from b_) (by omega)⟩ rfl hI (by omega)) (gdC tb_530 gdB) tb_528 tb_529 tb_13 ⟨ok_L_types, ⟨Nat.le_of_ble_eq_true rfl, Nat.le_of_ble_eq_true rfl⟩, rfl, rfl⟩ (PreS.of I) rfl hl.1 rfl (Nat.le_of_ble_eq_true rfl) dL_law_51 ⟨Nat.le_of_ble_eq_true rfl, Nat.le_of_ble_eq_true rfl⟩) (fun r7 S8 H locs q9 I => ?_)
  obtain ⟨e_, hI, hA⟩ := q9
  subst e_
  have hI := LI_vv (V2 := uf V 0 0) hI uf_eq (fun j_ a_ b_ => absurd (show j_ < (0 : Int) from b_) (by omega))
  refine rz_eq (tgt := 61) X (by omega) dL_law_54 (by decide) (fun c10 => by exfalso; omega) (fun c10 => ?_)
  refine ri_const X (v := 1) dL_law_57 ?_
  refine lv_goto (tgt := 62) X.1 X.2.1 dL_law_58 (by decide) ?_
  refine lv_istore (lv' := [(6, .int (iI 1)), (0, .ref b), (1, .ref (G.2.2 0)), (2, .ref (G.2.2 57)), (3, .ref (G.2.2 58)), (4, .ref (G.2.2 59)), (5, .ref (G.2.2 60))]) X.1 X.2.1 dL_law_62 hl (by decide) rfl (fun ls hl => ?_)
  exact law_P2 X hr hlk hE hL hbA T Y (uf V 0 0) HD hA hT uf_eq hI I (lv_sub hl [1, 2, 3, 4, 5, 6, 0] rfl)
