/-! the law's ordered and first -/
theorem psb_none {Q : Int → Prop} : ∀ {n : Nat}, (∀ y : Int, 0 ≤ y → y < n → ¬ Q y) → psb Q n = 0
  | 0, _ => rfl
  | n + 1, h => by rw [psb, if_neg (h n (by omega) (by omega))]; exact psb_none (fun y a b => h y a (by omega))
theorem ok_L_ordered : yL_ordered.cls ≠ "java/lang/invoke/MethodHandle" ∧ yL_ordered.cls ≠ "java/lang/invoke/VarHandle" ∧ (parseMethodDescriptor yL_ordered.desc).map (fun d => d.parameters.length) = some 2 := ⟨by decide +kernel, by decide +kernel, by decide +kernel⟩
abbrev po_L_ordered (T Y V HD PK : Int → Int) (B AG TK KP h : Int)  : Int → St → Prop := fun r S1 => r = 1 ∧ LI T Y V PK B AG TK KP (h + 110) S1 ∧ AR T Y V HD S1
abbrev rm_L_ordered : Room := ({ frames := 8, cells := 0, slots := 0, locals := 180 } : Room)
set_option maxRecDepth 100000 in
set_option maxHeartbeats 4000000 in
theorem k_L_ordered (l : Launch) (A : Nat → Prop) (G : Ge) (S : St) (T Y V HD PK : Int → Int) (B AG TK KP h : Int) (hA : AR T Y V HD S) (hT : TOK T Y) (hV : VOK V) (hI : LI T Y V PK B AG TK KP h S) (hP : POK T PK TK) (hTK : TK ≤ 600) (hh : h + 110 ≤ 4800) : Ki (KL A G) l yL_ordered cL_ordered 15 .boolean rm_L_ordered [.ref (G.2.2 0), .ref (G.2.2 57)] S (po_L_ordered T Y V HD PK B AG TK KP h) := by
  refine K_start (own := "NameSeekerLaw") (by decide +kernel) rfl (Nat.le_of_ble_eq_true rfl) ?_
  intro p e s m args below meth c X hr hlk I ls hl
  have hl : lv_has ls 15 [(0, .ref (G.2.2 0)), (1, .ref (G.2.2 57))] := hl
  have hT0 := hT.1
  have hV0 := hV.1
  have hp0 := psb_r (PSs T Y V) (T 0).toNat (by omega)
  have hp1 := psb_r (fun y_ => ¬ SC T Y V y_ = -4) (T 0).toNat (by omega)
  have hq0 := cq_r (PSs T Y V) (T 0).toNat
  have hq1 := cq_le (PSs T Y V) (T 0).toNat
  have hcd := CD_r hV
  refine lv_aload_n X.1 X.2.1 dL_ordered_0 rfl (lv_at hl 0 rfl) ?_
  refine ri_const X (v := 0) dL_ordered_1 ?_
  refine clx_i I (runV (As := [.int (iI 0)]) (rest := []) X (k_X9_passes l G S 0 (by omega) 600 hI.1) (gdC tb_449 (gdC tb_450 (gdC tb_451 (gdC tb_14 (gdC tb_452 gdB))))) ⟨ok_X9_passes, ⟨Nat.le_of_ble_eq_true rfl, Nat.le_of_ble_eq_true rfl⟩, rfl, rfl⟩ (PreV.ofL I) rfl hl.1 rfl (Nat.le_of_ble_eq_true rfl) dL_ordered_2 ⟨Nat.zero_le _, Nat.zero_le _⟩) (fun _ _ q_ => f7_passes q_) (fun r1 S2 H locs q3 I => ?_)
  have hA := AR_fr (f7_passes q3) hA
  obtain ⟨e_, hI, h61_, h62_⟩ := op_passes0 hV hI (by omega) q3
  subst e_
  try clear q3
  refine cl_i I (runS (As := [.int (iI (psb (PSs T Y V) (T 0).toNat))]) (rest := []) X (k_L_bits l A G S2 (psb (PSs T Y V) (T 0).toNat) (by omega)) (gdC tb_605 gdB) tb_603 tb_604 tb_13 ⟨ok_L_bits, ⟨Nat.le_of_ble_eq_true rfl, Nat.le_of_ble_eq_true rfl⟩, rfl, rfl⟩ (PreS.of I) rfl hl.1 rfl (Nat.le_of_ble_eq_true rfl) dL_ordered_5 ⟨Nat.zero_le _, Nat.zero_le _⟩) (fun r4 S5 H locs q6 I => ?_)
  obtain ⟨e_, es_⟩ := q6
  rw [es_] at I
  rw [bits_psb (by omega)] at e_
  subst e_
  refine lv_istore_n (lv' := [(2, .int (iI (cq (PSs T Y V) (T 0).toNat))), (0, .ref (G.2.2 0)), (1, .ref (G.2.2 57))]) X.1 X.2.1 dL_ordered_8 rfl hl (by decide) rfl (fun ls hl => ?_)
  refine lv_aload_n X.1 X.2.1 dL_ordered_9 rfl (lv_at hl 1 rfl) ?_
  refine ri_const X (v := 1) dL_ordered_10 ?_
  refine clx_i I (runV (As := [.int (iI 1)]) (rest := []) X (k_X9_passes l G S2 1 (by omega) 600 hI.1) (gdC tb_449 (gdC tb_450 (gdC tb_451 (gdC tb_14 (gdC tb_452 gdB))))) ⟨ok_X9_passes, ⟨Nat.le_of_ble_eq_true rfl, Nat.le_of_ble_eq_true rfl⟩, rfl, rfl⟩ (PreV.ofL I) rfl hl.1 rfl (Nat.le_of_ble_eq_true rfl) dL_ordered_11 ⟨Nat.zero_le _, Nat.zero_le _⟩) (fun _ _ q_ => f7_passes q_) (fun r7 S8 H locs q9 I => ?_)
  have hA := AR_fr (f7_passes q9) hA
  obtain ⟨e_, hI, h61_, h62_⟩ := op_passes1 hT hV hI (by omega) q9
  subst e_
  try clear q9
  refine lv_istore_n (lv' := [(3, .int (iI (psb (fun y_ => ¬ SC T Y V y_ = -4) (T 0).toNat))), (2, .int (iI (cq (PSs T Y V) (T 0).toNat))), (0, .ref (G.2.2 0)), (1, .ref (G.2.2 57))]) X.1 X.2.1 dL_ordered_14 rfl hl (by decide) rfl (fun ls hl => ?_)
  refine lv_aload_n X.1 X.2.1 dL_ordered_15 rfl (lv_at hl 2 rfl) ?_
  have hc_ := hI.2.2.2.2.2
  refine ri_push X (v := 7) (by decide) dL_ordered_16 ?_
  refine clx_i I (runV (As := [.int (iI 7)]) (rest := []) X (k_X9_count l G S8 7 (by omega) 600 hI.1) (gdC tb_470 (gdC tb_471 (gdC tb_472 (gdC tb_14 (gdC tb_473 gdB))))) ⟨ok_X9_count, ⟨Nat.le_of_ble_eq_true rfl, Nat.le_of_ble_eq_true rfl⟩, rfl, rfl⟩ (PreV.ofL I) rfl hl.1 rfl (Nat.le_of_ble_eq_true rfl) dL_ordered_18 ⟨Nat.zero_le _, Nat.zero_le _⟩) (fun _ _ q_ => f7_count q_) (fun r10 S11 H locs q12 I => ?_)
  have hA := AR_fr (f7_count q12) hA
  obtain ⟨e_, es_⟩ := cnt_7 q12
  rw [es_] at I hA
  subst e_
  try clear q12
  refine lv_aload_n X.1 X.2.1 dL_ordered_21 rfl (lv_at hl 2 rfl) ?_
  refine ri_push X (v := 8) (by decide) dL_ordered_22 ?_
  refine clx_i I (runV (As := [.int (iI 8)]) (rest := [.int (iI (S8.1 61 0))]) X (k_X9_count l G S8 8 (by omega) 600 hI.1) (gdC tb_470 (gdC tb_471 (gdC tb_472 (gdC tb_14 (gdC tb_473 gdB))))) ⟨ok_X9_count, ⟨Nat.le_of_ble_eq_true rfl, Nat.le_of_ble_eq_true rfl⟩, rfl, rfl⟩ (PreV.ofL I) rfl hl.1 rfl (Nat.le_of_ble_eq_true rfl) dL_ordered_24 ⟨Nat.zero_le _, Nat.zero_le _⟩) (fun _ _ q_ => f7_count q_) (fun r13 S14 H locs q15 I => ?_)
  have hA := AR_fr (f7_count q15) hA
  obtain ⟨e_, es_⟩ := cnt_8 q15
  rw [es_] at I hA
  subst e_
  try clear q15
  refine ri_add X (v := ((S8.1 61 0) + (S8.1 62 0))) rfl dL_ordered_27 ?_
  refine lv_istore (lv' := [(4, .int (iI ((S8.1 61 0) + (S8.1 62 0)))), (3, .int (iI (psb (fun y_ => ¬ SC T Y V y_ = -4) (T 0).toNat))), (2, .int (iI (cq (PSs T Y V) (T 0).toNat))), (0, .ref (G.2.2 0)), (1, .ref (G.2.2 57))]) X.1 X.2.1 dL_ordered_28 hl (by decide) rfl (fun ls hl => ?_)
  refine lv_aload_n X.1 X.2.1 dL_ordered_30 rfl (lv_at hl 3 rfl) ?_
  refine ri_const X (v := (-1)) dL_ordered_31 ?_
  refine clx_i I (runV (As := [.int (iI (-1))]) (rest := []) X (k_X9_list l G S8 (-1) (by omega) 600 hI.1) (gdC tb_609 (gdC tb_610 (gdC tb_611 (gdC tb_14 (gdC tb_612 gdB))))) ⟨ok_X9_list, ⟨Nat.le_of_ble_eq_true rfl, Nat.le_of_ble_eq_true rfl⟩, rfl, rfl⟩ (PreV.ofL I) rfl hl.1 rfl (Nat.le_of_ble_eq_true rfl) dL_ordered_32 ⟨Nat.zero_le _, Nat.zero_le _⟩) (fun _ _ q_ => f7_list q_) (fun r16 S17 H locs q18 I => ?_)
  have hA := AR_fr (f7_list q18) hA
  obtain ⟨g, mny, hk, hI, hsum, hm_, -, -⟩ := op_list hT hV hI (by omega) (by omega) q18
  clear q18
  obtain ⟨e_, ha14, ha63⟩ := hm_ rfl
  rw [e_]
  clear e_ hm_
  have hmn := hk.1
  have hc2_ := hI.2.2.2.2.2
  try clear q18
  refine lv_istore (lv' := [(5, .int (iI mny)), (4, .int (iI ((S8.1 61 0) + (S8.1 62 0)))), (3, .int (iI (psb (fun y_ => ¬ SC T Y V y_ = -4) (T 0).toNat))), (2, .int (iI (cq (PSs T Y V) (T 0).toNat))), (0, .ref (G.2.2 0)), (1, .ref (G.2.2 57))]) X.1 X.2.1 dL_ordered_35 hl (by decide) rfl (fun ls hl => ?_)
  refine lv_iload X.1 X.2.1 dL_ordered_37 (lv_at hl 0 rfl) ?_
  refine lv_iload_n X.1 X.2.1 dL_ordered_39 rfl (lv_at hl 2 rfl) ?_
  refine cl_i I (runS (As := [.int (iI (psb (fun y_ => ¬ SC T Y V y_ = -4) (T 0).toNat))]) (rest := [.int (iI mny)]) X (k_L_bits l A G S17 (psb (fun y_ => ¬ SC T Y V y_ = -4) (T 0).toNat) (by omega)) (gdC tb_605 gdB) tb_603 tb_604 tb_13 ⟨ok_L_bits, ⟨Nat.le_of_ble_eq_true rfl, Nat.le_of_ble_eq_true rfl⟩, rfl, rfl⟩ (PreS.of I) rfl hl.1 rfl (Nat.le_of_ble_eq_true rfl) dL_ordered_40 ⟨Nat.zero_le _, Nat.zero_le _⟩) (fun r19 S20 H locs q21 I => ?_)
  obtain ⟨e_, es_⟩ := q21
  rw [es_] at I
  rw [bits_psb (by omega), RKL_cq hk (by omega)] at e_
  rw [e_]
  clear e_ es_
  refine rj_ne (tgt := 95) X (by omega) (by omega) dL_ordered_43 (by decide) (fun c22 => by exfalso; omega) (fun c22 => ?_)
  refine lv_aload_n X.1 X.2.1 dL_ordered_46 rfl (lv_at hl 4 rfl) ?_
  refine ri_push X (v := 7) (by decide) dL_ordered_47 ?_
  refine clx_i I (runV (As := [.int (iI 7)]) (rest := []) X (k_X9_count l G S17 7 (by omega) 600 hI.1) (gdC tb_470 (gdC tb_471 (gdC tb_472 (gdC tb_14 (gdC tb_473 gdB))))) ⟨ok_X9_count, ⟨Nat.le_of_ble_eq_true rfl, Nat.le_of_ble_eq_true rfl⟩, rfl, rfl⟩ (PreV.ofL I) rfl hl.1 rfl (Nat.le_of_ble_eq_true rfl) dL_ordered_49 ⟨Nat.zero_le _, Nat.zero_le _⟩) (fun _ _ q_ => f7_count q_) (fun r23 S24 H locs q25 I => ?_)
  have hA := AR_fr (f7_count q25) hA
  obtain ⟨e_, es_⟩ := cnt_7 q25
  rw [es_] at I hA
  subst e_
  try clear q25
  refine lv_aload_n X.1 X.2.1 dL_ordered_52 rfl (lv_at hl 4 rfl) ?_
  refine ri_push X (v := 8) (by decide) dL_ordered_53 ?_
  refine clx_i I (runV (As := [.int (iI 8)]) (rest := [.int (iI (S17.1 61 0))]) X (k_X9_count l G S17 8 (by omega) 600 hI.1) (gdC tb_470 (gdC tb_471 (gdC tb_472 (gdC tb_14 (gdC tb_473 gdB))))) ⟨ok_X9_count, ⟨Nat.le_of_ble_eq_true rfl, Nat.le_of_ble_eq_true rfl⟩, rfl, rfl⟩ (PreV.ofL I) rfl hl.1 rfl (Nat.le_of_ble_eq_true rfl) dL_ordered_55 ⟨Nat.zero_le _, Nat.zero_le _⟩) (fun _ _ q_ => f7_count q_) (fun r26 S27 H locs q28 I => ?_)
  have hA := AR_fr (f7_count q28) hA
  obtain ⟨e_, es_⟩ := cnt_8 q28
  rw [es_] at I hA
  subst e_
  try clear q28
  refine ri_add X (v := ((S17.1 61 0) + (S17.1 62 0))) rfl dL_ordered_58 ?_
  refine lv_iload X.1 X.2.1 dL_ordered_59 (lv_at hl 1 rfl) ?_
  refine lv_iload_n X.1 X.2.1 dL_ordered_61 rfl (lv_at hl 3 rfl) ?_
  refine ri_add X (v := (((S8.1 61 0) + (S8.1 62 0)) + (cq (PSs T Y V) (T 0).toNat))) rfl dL_ordered_62 ?_
  refine rj_ne (tgt := 95) X (by omega) (by omega) dL_ordered_63 (by decide) (fun c29 => by exfalso; omega) (fun c29 => ?_)
  refine lv_aload_n X.1 X.2.1 dL_ordered_66 rfl (lv_at hl 4 rfl) ?_
  refine ri_const X (v := 0) dL_ordered_67 ?_
  refine clx_i I (runV (As := [.int (iI 0)]) (rest := []) X (k_X9_asked l G S17 0 (by omega) 600 hI.1) (gdC tb_636 (gdC tb_637 (gdC tb_638 (gdC tb_14 (gdC tb_639 gdB))))) ⟨ok_X9_asked, ⟨Nat.le_of_ble_eq_true rfl, Nat.le_of_ble_eq_true rfl⟩, rfl, rfl⟩ (PreV.ofL I) rfl hl.1 rfl (Nat.le_of_ble_eq_true rfl) dL_ordered_68 ⟨Nat.zero_le _, Nat.zero_le _⟩) (fun _ _ q_ => f7_asked q_) (fun r30 S31 H locs q32 I => ?_)
  have hA := AR_fr (f7_asked q32) hA
  obtain ⟨e_, es_⟩ := ask_0 ha14 ha63 q32
  rw [es_] at I hA
  subst e_
  try clear q32
  refine lv_aload_n X.1 X.2.1 dL_ordered_71 rfl (lv_at hl 4 rfl) ?_
  refine ri_push X (v := 12) (by decide) dL_ordered_72 ?_
  refine clx_i I (runV (As := [.int (iI 12)]) (rest := [.int (iI (CD V % 100003))]) X (k_X9_count l G S17 12 (by omega) 600 hI.1) (gdC tb_470 (gdC tb_471 (gdC tb_472 (gdC tb_14 (gdC tb_473 gdB))))) ⟨ok_X9_count, ⟨Nat.le_of_ble_eq_true rfl, Nat.le_of_ble_eq_true rfl⟩, rfl, rfl⟩ (PreV.ofL I) rfl hl.1 rfl (Nat.le_of_ble_eq_true rfl) dL_ordered_74 ⟨Nat.zero_le _, Nat.zero_le _⟩) (fun _ _ q_ => f7_count q_) (fun r33 S34 H locs q35 I => ?_)
  have hA := AR_fr (f7_count q35) hA
  obtain ⟨e_, es_⟩ := cnt_12 hV hI q35
  rw [es_] at I hA
  subst e_
  try clear q35
  refine rj_ne (tgt := 95) X (by omega) (by omega) dL_ordered_77 (by decide) (fun c36 => by exfalso; omega) (fun c36 => ?_)
  refine lv_aload_n X.1 X.2.1 dL_ordered_80 rfl (lv_at hl 4 rfl) ?_
  refine lv_iload X.1 X.2.1 dL_ordered_81 (lv_at hl 0 rfl) ?_
  refine clx_i I (runV (As := [.int (iI mny)]) (rest := []) X (k_X9_list l G S17 mny (by omega) 600 hI.1) (gdC tb_609 (gdC tb_610 (gdC tb_611 (gdC tb_14 (gdC tb_612 gdB))))) ⟨ok_X9_list, ⟨Nat.le_of_ble_eq_true rfl, Nat.le_of_ble_eq_true rfl⟩, rfl, rfl⟩ (PreV.ofL I) rfl hl.1 rfl (Nat.le_of_ble_eq_true rfl) dL_ordered_83 ⟨Nat.zero_le _, Nat.zero_le _⟩) (fun _ _ q_ => f7_list q_) (fun r37 S38 H locs q39 I => ?_)
  have hA := AR_fr (f7_list q39) hA
  obtain ⟨g2_, m2_, hk2_, hI, -, -, hr_, -⟩ := op_list hT hV hI (by omega) (by omega) q39
  clear q39
  obtain ⟨u1_, u2_⟩ := RKL_un hk hk2_
  have e_ := hr_ (by omega)
  rw [if_neg (by omega)] at e_
  subst e_
  try clear q39
  refine ri_push X (v := (-4)) (by decide) dL_ordered_86 ?_
  refine rj_ne (tgt := 95) X (by omega) (by omega) dL_ordered_88 (by decide) (fun c40 => by exfalso; omega) (fun c40 => ?_)
  refine ri_const X (v := 1) dL_ordered_91 ?_
  refine lv_goto (tgt := 96) X.1 X.2.1 dL_ordered_92 (by decide) ?_
  refine lv_istore (lv' := [(6, .int (iI 1)), (5, .int (iI mny)), (4, .int (iI ((S8.1 61 0) + (S8.1 62 0)))), (3, .int (iI (psb (fun y_ => ¬ SC T Y V y_ = -4) (T 0).toNat))), (2, .int (iI (cq (PSs T Y V) (T 0).toNat))), (0, .ref (G.2.2 0)), (1, .ref (G.2.2 57))]) X.1 X.2.1 dL_ordered_96 hl (by decide) rfl (fun ls hl => ?_)
  refine ri_const X (v := 0) dL_ordered_98 ?_
  refine lv_istore (lv' := [(7, .int (iI 0)), (6, .int (iI 1)), (5, .int (iI mny)), (4, .int (iI ((S8.1 61 0) + (S8.1 62 0)))), (3, .int (iI (psb (fun y_ => ¬ SC T Y V y_ = -4) (T 0).toNat))), (2, .int (iI (cq (PSs T Y V) (T 0).toNat))), (0, .ref (G.2.2 0)), (1, .ref (G.2.2 57))]) X.1 X.2.1 dL_ordered_99 hl (by decide) rfl (fun ls hl => ?_)
  refine ri_const X (v := (-1)) dL_ordered_101 ?_
  refine lv_istore (lv' := [(8, .int (iI (-1))), (7, .int (iI 0)), (6, .int (iI 1)), (5, .int (iI mny)), (4, .int (iI ((S8.1 61 0) + (S8.1 62 0)))), (3, .int (iI (psb (fun y_ => ¬ SC T Y V y_ = -4) (T 0).toNat))), (2, .int (iI (cq (PSs T Y V) (T 0).toNat))), (0, .ref (G.2.2 0)), (1, .ref (G.2.2 57))]) X.1 X.2.1 dL_ordered_102 hl (by decide) rfl (fun ls hl => ?_)
  refine ri_const X (v := 0) dL_ordered_104 ?_
  refine lv_istore (lv' := [(9, .int (iI 0)), (8, .int (iI (-1))), (7, .int (iI 0)), (6, .int (iI 1)), (5, .int (iI mny)), (4, .int (iI ((S8.1 61 0) + (S8.1 62 0)))), (3, .int (iI (psb (fun y_ => ¬ SC T Y V y_ = -4) (T 0).toNat))), (2, .int (iI (cq (PSs T Y V) (T 0).toNat))), (0, .ref (G.2.2 0)), (1, .ref (G.2.2 57))]) X.1 X.2.1 dL_ordered_105 hl (by decide) rfl (fun ls hl => ?_)
  have lp_107 : ∀ (fu_ : Nat) (n_ : Nat) (U : St), 9 - n_ < fu_ → ∀ (hn : (n_ : Int) ≤ mny) (hA : AR T Y V HD U) (hI : LI T Y V PK B AG TK KP (h + 16 + 10 * n_) U) (H : Heap) (locs : List Loc), In (KL A G) s s.heap H locs U → ∀ ls : Array Slot, lv_has ls 15 [(0, .ref (G.2.2 0)), (1, .ref (G.2.2 57)), (2, .int (iI (cq (PSs T Y V) (T 0).toNat))), (3, .int (iI (psb (fun y_ => ¬ SC T Y V y_ = -4) (T 0).toNat))), (4, .int (iI ((S8.1 61 0) + (S8.1 62 0)))), (5, .int (iI mny)), (6, .int (iI 1)), (7, .int (iI (psb (SEEN g n_) (T 0).toNat))), (8, .int (iI (LST g n_))), (9, .int (iI ((n_ : Nat) : Int)))] → W p l e rm_L_ordered s m args below meth c H locs 0 0 (MQ below (QI (KL A G) (po_L_ordered T Y V HD PK B AG TK KP h)) args s 0 0 A) (F0 m 107 ls []) := by
    intro fu_
    induction fu_ with
    | zero => intro n_ U hm; exact absurd hm (by omega)
    | succ fu_ ih_107 =>
      intro n_ U hm_107 hn hA hI H locs I ls hl
      refine lv_iload X.1 X.2.1 dL_ordered_107 (lv_at hl 9 rfl) ?_
      refine lv_iload X.1 X.2.1 dL_ordered_109 (lv_at hl 5 rfl) ?_
      refine rj_ge (tgt := 316) X (by omega) (by omega) dL_ordered_111 (by decide) (fun c41 => ?_) (fun c41 => ?_)
      · skip
        have hp5 := psb_r (SEEN g n_) (T 0).toNat (by omega)
        refine lv_iload X.1 X.2.1 dL_ordered_316 (lv_at hl 6 rfl) ?_
        refine rz_eq (tgt := 331) X (by omega) dL_ordered_318 (by decide) (fun c42 => by exfalso; omega) (fun c42 => ?_)
        refine lv_iload X.1 X.2.1 dL_ordered_321 (lv_at hl 7 rfl) ?_
        refine lv_iload_n X.1 X.2.1 dL_ordered_323 rfl (lv_at hl 3 rfl) ?_
        refine rj_ne (tgt := 331) X (by omega) (by omega) dL_ordered_324 (by decide) (fun c43 => by exfalso; have he_ := seen_all hk (T 0).toNat (by omega) (k := n_) (by omega); omega) (fun c43 => ?_)
        refine ri_const X (v := 1) dL_ordered_327 ?_
        refine lv_goto (tgt := 332) X.1 X.2.1 dL_ordered_328 (by decide) ?_
        exact rt_i X hr hlk I (by rfl) (⟨rfl, LI_h hI (by omega), hA⟩) dL_ordered_332
      · skip
        refine lv_iload X.1 X.2.1 dL_ordered_114 (lv_at hl 6 rfl) ?_
        refine rz_eq (tgt := 316) X (by omega) dL_ordered_116 (by decide) (fun c44 => by exfalso; omega) (fun c44 => ?_)
        refine lv_aload_n X.1 X.2.1 dL_ordered_119 rfl (lv_at hl 0 rfl) ?_
        refine lv_iload X.1 X.2.1 dL_ordered_120 (lv_at hl 9 rfl) ?_
        refine clx_i I (runV (As := [.int (iI ((n_ : Nat) : Int))]) (rest := []) X (k_X9_list l G U ((n_ : Nat) : Int) (by omega) 600 hI.1) (gdC tb_609 (gdC tb_610 (gdC tb_611 (gdC tb_14 (gdC tb_612 gdB))))) ⟨ok_X9_list, ⟨Nat.le_of_ble_eq_true rfl, Nat.le_of_ble_eq_true rfl⟩, rfl, rfl⟩ (PreV.ofL I) rfl hl.1 rfl (Nat.le_of_ble_eq_true rfl) dL_ordered_122 ⟨Nat.zero_le _, Nat.zero_le _⟩) (fun _ _ q_ => f7_list q_) (fun r45 S46 H locs q47 I => ?_)
        have hA := AR_fr (f7_list q47) hA
        obtain ⟨g2_, m2_, hk2_, hI, -, -, hr_, -⟩ := op_list hT hV hI (by omega) (by omega) q47
        clear q47
        obtain ⟨u1_, u2_⟩ := RKL_un hk hk2_
        have e_ := hr_ (by omega)
        rw [if_pos (by omega), ← u2_ _ (by omega) (by omega)] at e_
        subst e_
        obtain ⟨hg1, hg2⟩ := hk.2.1 n_ (by omega) (by omega)
        have hb1 := psb_sh (Pr := fun y_ => ¬ SC T Y V y_ = -4) (n := (T 0).toNat) (k := g n_) (by omega)
        have hb2 : shr (psb (fun y_ => ¬ SC T Y V y_ = -4) (T 0).toNat) (g n_) % 2 = 1 := hb1.mpr ⟨by omega, hg2⟩
        have hb3 := psb_sh (Pr := SEEN g n_) (n := (T 0).toNat) (k := g n_) (by omega)
        have hb4 := seen_no hk (k := n_) (by omega)
        have hb5 : ¬ shr (psb (SEEN g n_) (T 0).toNat) (g n_) % 2 = 1 := fun z_ => hb4 (hb3.mp z_).2
        have hp4 := psb_r (SEEN g n_) (T 0).toNat (by omega)
        clear hb1 hb3
        try clear q47
        refine lv_istore (lv' := [(10, .int (iI (g (n_ : Int)))), (0, .ref (G.2.2 0)), (1, .ref (G.2.2 57)), (2, .int (iI (cq (PSs T Y V) (T 0).toNat))), (3, .int (iI (psb (fun y_ => ¬ SC T Y V y_ = -4) (T 0).toNat))), (4, .int (iI ((S8.1 61 0) + (S8.1 62 0)))), (5, .int (iI mny)), (6, .int (iI 1)), (7, .int (iI (psb (SEEN g n_) (T 0).toNat))), (8, .int (iI (LST g n_))), (9, .int (iI ((n_ : Nat) : Int)))]) X.1 X.2.1 dL_ordered_125 hl (by decide) rfl (fun ls hl => ?_)
        refine lv_iload X.1 X.2.1 dL_ordered_127 (lv_at hl 0 rfl) ?_
        refine rz_lt (tgt := 164) X (by omega) dL_ordered_129 (by decide) (fun c48 => by exfalso; omega) (fun c48 => ?_)
        refine lv_iload X.1 X.2.1 dL_ordered_132 (lv_at hl 0 rfl) ?_
        refine lv_aload_n X.1 X.2.1 dL_ordered_134 rfl (lv_at hl 2 rfl) ?_
        refine ri_const X (v := 0) dL_ordered_135 ?_
        refine aL_lt X I (v := (T 0)) (hA.1 0) (by omega) dL_ordered_136 ?_
        refine rj_ge (tgt := 164) X (by omega) (by omega) dL_ordered_137 (by decide) (fun c49 => by exfalso; omega) (fun c49 => ?_)
        refine lv_iload_n X.1 X.2.1 dL_ordered_140 rfl (lv_at hl 4 rfl) ?_
        refine lv_iload X.1 X.2.1 dL_ordered_141 (lv_at hl 0 rfl) ?_
        refine ri_shr X (by omega) (by omega) dL_ordered_143 ?_
        have t50 := shr_r (a := (psb (fun y_ => ¬ SC T Y V y_ = -4) (T 0).toNat)) (k := (g (n_ : Int))) (by omega)
        refine ri_const X (v := 1) dL_ordered_144 ?_
        refine ri_and1 X (by omega) dL_ordered_145 ?_
        refine ri_const X (v := 1) dL_ordered_146 ?_
        refine rj_ne (tgt := 164) X (by omega) (by omega) dL_ordered_147 (by decide) (fun c51 => by exfalso; omega) (fun c51 => ?_)
        refine lv_iload X.1 X.2.1 dL_ordered_150 (lv_at hl 8 rfl) ?_
        refine lv_iload X.1 X.2.1 dL_ordered_152 (lv_at hl 0 rfl) ?_
        refine ri_shr X (by omega) (by omega) dL_ordered_154 ?_
        have t52 := shr_r (a := (psb (SEEN g n_) (T 0).toNat)) (k := (g (n_ : Int))) (by omega)
        refine ri_const X (v := 1) dL_ordered_155 ?_
        refine ri_and1 X (by omega) dL_ordered_156 ?_
        refine rz_ne (tgt := 164) X (by omega) dL_ordered_157 (by decide) (fun c53 => by exfalso; omega) (fun c53 => ?_)
        refine ri_const X (v := 1) dL_ordered_160 ?_
        refine lv_goto (tgt := 165) X.1 X.2.1 dL_ordered_161 (by decide) ?_
        refine lv_istore (lv' := [(6, .int (iI 1)), (10, .int (iI (g (n_ : Int)))), (0, .ref (G.2.2 0)), (1, .ref (G.2.2 57)), (2, .int (iI (cq (PSs T Y V) (T 0).toNat))), (3, .int (iI (psb (fun y_ => ¬ SC T Y V y_ = -4) (T 0).toNat))), (4, .int (iI ((S8.1 61 0) + (S8.1 62 0)))), (5, .int (iI mny)), (7, .int (iI (psb (SEEN g n_) (T 0).toNat))), (8, .int (iI (LST g n_))), (9, .int (iI ((n_ : Nat) : Int)))]) X.1 X.2.1 dL_ordered_165 hl (by decide) rfl (fun ls hl => ?_)
        refine lv_iload X.1 X.2.1 dL_ordered_167 (lv_at hl 0 rfl) ?_
        refine rz_eq (tgt := 288) X (by omega) dL_ordered_169 (by decide) (fun c54 => by exfalso; omega) (fun c54 => ?_)
        refine lv_iload X.1 X.2.1 dL_ordered_172 (lv_at hl 10 rfl) ?_
        refine rz_le (tgt := 288) X (by omega) dL_ordered_174 (by decide) (fun c55 => ?_) (fun c55 => ?_)
        · skip
          refine lv_iload X.1 X.2.1 dL_ordered_288 (lv_at hl 8 rfl) ?_
          refine lv_iload X.1 X.2.1 dL_ordered_290 (lv_at hl 0 rfl) ?_
          refine rz_eq (tgt := 302) X (by omega) dL_ordered_292 (by decide) (fun c56 => by exfalso; omega) (fun c56 => ?_)
          refine ri_const X (v := 1) dL_ordered_295 ?_
          refine lv_iload X.1 X.2.1 dL_ordered_296 (lv_at hl 1 rfl) ?_
          refine ri_shl X (by omega) dL_ordered_298 ?_
          have t57 := pw_r (k := (g (n_ : Int))) (by omega)
          refine lv_goto (tgt := 303) X.1 X.2.1 dL_ordered_299 (by decide) ?_
          refine ri_add X (v := ((psb (SEEN g n_) (T 0).toNat) + (pw (g (n_ : Int))))) rfl dL_ordered_303 ?_
          refine lv_istore (lv' := [(7, .int (iI ((psb (SEEN g n_) (T 0).toNat) + (pw (g (n_ : Int)))))), (6, .int (iI 1)), (10, .int (iI (g (n_ : Int)))), (0, .ref (G.2.2 0)), (1, .ref (G.2.2 57)), (2, .int (iI (cq (PSs T Y V) (T 0).toNat))), (3, .int (iI (psb (fun y_ => ¬ SC T Y V y_ = -4) (T 0).toNat))), (4, .int (iI ((S8.1 61 0) + (S8.1 62 0)))), (5, .int (iI mny)), (8, .int (iI (LST g n_))), (9, .int (iI ((n_ : Nat) : Int)))]) X.1 X.2.1 dL_ordered_304 hl (by decide) rfl (fun ls hl => ?_)
          refine lv_iload X.1 X.2.1 dL_ordered_306 (lv_at hl 2 rfl) ?_
          refine lv_istore (lv' := [(8, .int (iI (g (n_ : Int)))), (7, .int (iI ((psb (SEEN g n_) (T 0).toNat) + (pw (g (n_ : Int)))))), (6, .int (iI 1)), (10, .int (iI (g (n_ : Int)))), (0, .ref (G.2.2 0)), (1, .ref (G.2.2 57)), (2, .int (iI (cq (PSs T Y V) (T 0).toNat))), (3, .int (iI (psb (fun y_ => ¬ SC T Y V y_ = -4) (T 0).toNat))), (4, .int (iI ((S8.1 61 0) + (S8.1 62 0)))), (5, .int (iI mny)), (9, .int (iI ((n_ : Nat) : Int)))]) X.1 X.2.1 dL_ordered_308 hl (by decide) rfl (fun ls hl => ?_)
          refine ri_iinc X (k := 10) (v := (((n_ : Nat) : Int) + 1)) (lv' := [(9, .int (iI (((n_ : Nat) : Int) + 1))), (8, .int (iI (g (n_ : Int)))), (7, .int (iI ((psb (SEEN g n_) (T 0).toNat) + (pw (g (n_ : Int)))))), (6, .int (iI 1)), (10, .int (iI (g (n_ : Int)))), (0, .ref (G.2.2 0)), (1, .ref (G.2.2 57)), (2, .int (iI (cq (PSs T Y V) (T 0).toNat))), (3, .int (iI (psb (fun y_ => ¬ SC T Y V y_ = -4) (T 0).toNat))), (4, .int (iI ((S8.1 61 0) + (S8.1 62 0)))), (5, .int (iI mny))]) rfl dL_ordered_310 hl rfl (by decide) rfl (fun ls hl => ?_)
          refine lv_goto (tgt := 107) X.1 X.2.1 dL_ordered_313 (by decide) ?_
          have hl : lv_has ls 15 [(9, .int (iI (((n_ + 1) : Nat) : Int))), (8, .int (iI (g (n_ : Int)))), (7, .int (iI ((psb (SEEN g n_) (T 0).toNat) + (pw (g (n_ : Int)))))), (6, .int (iI 1)), (10, .int (iI (g (n_ : Int)))), (0, .ref (G.2.2 0)), (1, .ref (G.2.2 57)), (2, .int (iI (cq (PSs T Y V) (T 0).toNat))), (3, .int (iI (psb (fun y_ => ¬ SC T Y V y_ = -4) (T 0).toNat))), (4, .int (iI ((S8.1 61 0) + (S8.1 62 0)))), (5, .int (iI mny))] := by
            have e_ : (((n_ : Nat) : Int) + 1) = (((n_ + 1) : Nat) : Int) := (by omega)
            rw [← e_]; exact hl
          have hl : lv_has ls 15 [(9, .int (iI (((n_ + 1) : Nat) : Int))), (8, .int (iI (LST g (n_ + 1)))), (7, .int (iI ((psb (SEEN g n_) (T 0).toNat) + (pw (g (n_ : Int)))))), (6, .int (iI 1)), (10, .int (iI (g (n_ : Int)))), (0, .ref (G.2.2 0)), (1, .ref (G.2.2 57)), (2, .int (iI (cq (PSs T Y V) (T 0).toNat))), (3, .int (iI (psb (fun y_ => ¬ SC T Y V y_ = -4) (T 0).toNat))), (4, .int (iI ((S8.1 61 0) + (S8.1 62 0)))), (5, .int (iI mny))] := by
            have e_ : (g (n_ : Int)) = (LST g (n_ + 1)) := rfl
            rw [← e_]; exact hl
          have hl : lv_has ls 15 [(9, .int (iI (((n_ + 1) : Nat) : Int))), (8, .int (iI (LST g (n_ + 1)))), (7, .int (iI (psb (SEEN g (n_ + 1)) (T 0).toNat))), (6, .int (iI 1)), (10, .int (iI (g (n_ : Int)))), (0, .ref (G.2.2 0)), (1, .ref (G.2.2 57)), (2, .int (iI (cq (PSs T Y V) (T 0).toNat))), (3, .int (iI (psb (fun y_ => ¬ SC T Y V y_ = -4) (T 0).toNat))), (4, .int (iI ((S8.1 61 0) + (S8.1 62 0)))), (5, .int (iI mny))] := by
            have e_ : ((psb (SEEN g n_) (T 0).toNat) + (pw (g (n_ : Int)))) = (psb (SEEN g (n_ + 1)) (T 0).toNat) := (seen_add (by omega) (by omega) hb4)
            rw [← e_]; exact hl
          exact ih_107 (n_ + 1) S46 (by omega) (by omega) (hA) (LI_h hI (by omega)) _ _ I ls (lv_sub hl [5, 6, 7, 8, 9, 10, 3, 2, 1, 0] rfl)
        · skip
          obtain ⟨hl1, hl2, hl3⟩ := LST_at hk (n := n_) (by omega) (by omega)
          unfold ahL ahd at hl2
          refine lv_aload_n X.1 X.2.1 dL_ordered_177 rfl (lv_at hl 2 rfl) ?_
          refine lv_iload X.1 X.2.1 dL_ordered_178 (lv_at hl 9 rfl) ?_
          refine clx_i I (runV (As := [.int (iI (LST g n_))]) (rest := []) X (k_X9_score l G S46 (LST g n_) (by omega) 600 hI.1) (gdC tb_538 (gdC tb_539 (gdC tb_540 (gdC tb_14 (gdC tb_541 gdB))))) ⟨ok_X9_score, ⟨Nat.le_of_ble_eq_true rfl, Nat.le_of_ble_eq_true rfl⟩, rfl, rfl⟩ (PreV.ofL I) rfl hl.1 rfl (Nat.le_of_ble_eq_true rfl) dL_ordered_180 ⟨Nat.zero_le _, Nat.zero_le _⟩) (fun _ _ q_ => f7_score q_) (fun r58 S59 H locs q60 I => ?_)
          have hA := AR_fr (f7_score q60) hA
          obtain ⟨e_, hI, kn61, hskn61, hkkn61⟩ := op_score hT hV hI (by omega) ⟨by omega, by omega⟩ q60
          subst e_
          have hr62 := SC_r hT (i := (LST g n_)) (by omega) hV
          try clear q60
          refine lv_istore (lv' := [(11, .int (iI (SC T Y V (LST g n_)))), (6, .int (iI 1)), (10, .int (iI (g (n_ : Int)))), (0, .ref (G.2.2 0)), (1, .ref (G.2.2 57)), (2, .int (iI (cq (PSs T Y V) (T 0).toNat))), (3, .int (iI (psb (fun y_ => ¬ SC T Y V y_ = -4) (T 0).toNat))), (4, .int (iI ((S8.1 61 0) + (S8.1 62 0)))), (5, .int (iI mny)), (7, .int (iI (psb (SEEN g n_) (T 0).toNat))), (8, .int (iI (LST g n_))), (9, .int (iI ((n_ : Nat) : Int)))]) X.1 X.2.1 dL_ordered_183 hl (by decide) rfl (fun ls hl => ?_)
          refine lv_aload_n X.1 X.2.1 dL_ordered_185 rfl (lv_at hl 3 rfl) ?_
          refine lv_iload X.1 X.2.1 dL_ordered_186 (lv_at hl 2 rfl) ?_
          refine clx_i I (runV (As := [.int (iI (g (n_ : Int)))]) (rest := []) X (k_X9_score l G S59 (g (n_ : Int)) (by omega) 600 hI.1) (gdC tb_538 (gdC tb_539 (gdC tb_540 (gdC tb_14 (gdC tb_541 gdB))))) ⟨ok_X9_score, ⟨Nat.le_of_ble_eq_true rfl, Nat.le_of_ble_eq_true rfl⟩, rfl, rfl⟩ (PreV.ofL I) rfl hl.1 rfl (Nat.le_of_ble_eq_true rfl) dL_ordered_188 ⟨Nat.zero_le _, Nat.zero_le _⟩) (fun _ _ q_ => f7_score q_) (fun r63 S64 H locs q65 I => ?_)
          have hA := AR_fr (f7_score q65) hA
          obtain ⟨e_, hI, kn66, hskn66, hkkn66⟩ := op_score hT hV hI (by omega) ⟨by omega, by omega⟩ q65
          subst e_
          have hr67 := SC_r hT (i := (g (n_ : Int))) (by omega) hV
          try clear q65
          refine lv_istore (lv' := [(12, .int (iI (SC T Y V (g (n_ : Int))))), (11, .int (iI (SC T Y V (LST g n_)))), (6, .int (iI 1)), (10, .int (iI (g (n_ : Int)))), (0, .ref (G.2.2 0)), (1, .ref (G.2.2 57)), (2, .int (iI (cq (PSs T Y V) (T 0).toNat))), (3, .int (iI (psb (fun y_ => ¬ SC T Y V y_ = -4) (T 0).toNat))), (4, .int (iI ((S8.1 61 0) + (S8.1 62 0)))), (5, .int (iI mny)), (7, .int (iI (psb (SEEN g n_) (T 0).toNat))), (8, .int (iI (LST g n_))), (9, .int (iI ((n_ : Nat) : Int)))]) X.1 X.2.1 dL_ordered_191 hl (by decide) rfl (fun ls hl => ?_)
          refine lv_aload_n X.1 X.2.1 dL_ordered_193 rfl (lv_at hl 4 rfl) ?_
          refine lv_iload X.1 X.2.1 dL_ordered_194 (lv_at hl 11 rfl) ?_
          refine ri_const X (v := 3) dL_ordered_196 ?_
          refine clx_i I (runV (As := [.int (iI (LST g n_)), .int (iI 3)]) (rest := []) X (k_X9_name l G S64 (LST g n_) 3 (by omega) (by omega) 600 hI.1) (gdC tb_421 (gdC tb_422 (gdC tb_423 (gdC tb_14 (gdC tb_424 gdB))))) ⟨ok_X9_name, ⟨Nat.le_of_ble_eq_true rfl, Nat.le_of_ble_eq_true rfl⟩, rfl, rfl⟩ (PreV.ofL I) rfl hl.1 rfl (Nat.le_of_ble_eq_true rfl) dL_ordered_197 ⟨Nat.zero_le _, Nat.zero_le _⟩) (fun _ _ q_ => f7_name q_) (fun r68 S69 H locs q70 I => ?_)
          have hA := AR_fr (f7_name q70) hA
          obtain ⟨e_, es_⟩ := nam_3 hI (by omega) q70
          rw [es_] at I hA
          subst e_
          have hp71 := (hP ((LST g n_)) (by omega) (by omega)).1
          try clear q70
          refine lv_istore (lv' := [(13, .int (iI (PK (LST g n_)))), (12, .int (iI (SC T Y V (g (n_ : Int))))), (11, .int (iI (SC T Y V (LST g n_)))), (6, .int (iI 1)), (10, .int (iI (g (n_ : Int)))), (0, .ref (G.2.2 0)), (1, .ref (G.2.2 57)), (2, .int (iI (cq (PSs T Y V) (T 0).toNat))), (3, .int (iI (psb (fun y_ => ¬ SC T Y V y_ = -4) (T 0).toNat))), (4, .int (iI ((S8.1 61 0) + (S8.1 62 0)))), (5, .int (iI mny)), (7, .int (iI (psb (SEEN g n_) (T 0).toNat))), (8, .int (iI (LST g n_))), (9, .int (iI ((n_ : Nat) : Int)))]) X.1 X.2.1 dL_ordered_200 hl (by decide) rfl (fun ls hl => ?_)
          refine lv_aload_n X.1 X.2.1 dL_ordered_202 rfl (lv_at hl 5 rfl) ?_
          refine lv_iload X.1 X.2.1 dL_ordered_203 (lv_at hl 4 rfl) ?_
          refine ri_const X (v := 3) dL_ordered_205 ?_
          refine clx_i I (runV (As := [.int (iI (g (n_ : Int))), .int (iI 3)]) (rest := []) X (k_X9_name l G S64 (g (n_ : Int)) 3 (by omega) (by omega) 600 hI.1) (gdC tb_421 (gdC tb_422 (gdC tb_423 (gdC tb_14 (gdC tb_424 gdB))))) ⟨ok_X9_name, ⟨Nat.le_of_ble_eq_true rfl, Nat.le_of_ble_eq_true rfl⟩, rfl, rfl⟩ (PreV.ofL I) rfl hl.1 rfl (Nat.le_of_ble_eq_true rfl) dL_ordered_206 ⟨Nat.zero_le _, Nat.zero_le _⟩) (fun _ _ q_ => f7_name q_) (fun r72 S73 H locs q74 I => ?_)
          have hA := AR_fr (f7_name q74) hA
          obtain ⟨e_, es_⟩ := nam_3 hI (by omega) q74
          rw [es_] at I hA
          subst e_
          have hp75 := (hP ((g (n_ : Int))) (by omega) (by omega)).1
          try clear q74
          refine lv_istore (lv' := [(14, .int (iI (PK (g (n_ : Int))))), (13, .int (iI (PK (LST g n_)))), (12, .int (iI (SC T Y V (g (n_ : Int))))), (11, .int (iI (SC T Y V (LST g n_)))), (6, .int (iI 1)), (10, .int (iI (g (n_ : Int)))), (0, .ref (G.2.2 0)), (1, .ref (G.2.2 57)), (2, .int (iI (cq (PSs T Y V) (T 0).toNat))), (3, .int (iI (psb (fun y_ => ¬ SC T Y V y_ = -4) (T 0).toNat))), (4, .int (iI ((S8.1 61 0) + (S8.1 62 0)))), (5, .int (iI mny)), (7, .int (iI (psb (SEEN g n_) (T 0).toNat))), (8, .int (iI (LST g n_))), (9, .int (iI ((n_ : Nat) : Int)))]) X.1 X.2.1 dL_ordered_209 hl (by decide) rfl (fun ls hl => ?_)
          have hq_ := (hP (LST g n_) (by omega) (by omega)).2 (g n_) (by omega) (by omega) hl3
          have jn_286_75 : ∀ z_ : Int, z_ = 1 → ∀ (H : Heap) (locs : List Loc), In (KL A G) s s.heap H locs S64 → W p l e rm_L_ordered s m args below meth c H locs 0 0 (MQ below (QI (KL A G) (po_L_ordered T Y V HD PK B AG TK KP h)) args s 0 0 A) (F0 m 286 ls [.int (iI z_)]) := by
            intro z_ hz_ H locs I
            subst hz_
            refine lv_istore (lv' := [(6, .int (iI 1)), (14, .int (iI (PK (g (n_ : Int))))), (13, .int (iI (PK (LST g n_)))), (12, .int (iI (SC T Y V (g (n_ : Int))))), (11, .int (iI (SC T Y V (LST g n_)))), (10, .int (iI (g (n_ : Int)))), (0, .ref (G.2.2 0)), (1, .ref (G.2.2 57)), (2, .int (iI (cq (PSs T Y V) (T 0).toNat))), (3, .int (iI (psb (fun y_ => ¬ SC T Y V y_ = -4) (T 0).toNat))), (4, .int (iI ((S8.1 61 0) + (S8.1 62 0)))), (5, .int (iI mny)), (7, .int (iI (psb (SEEN g n_) (T 0).toNat))), (8, .int (iI (LST g n_))), (9, .int (iI ((n_ : Nat) : Int)))]) X.1 X.2.1 dL_ordered_286 hl (by decide) rfl (fun ls hl => ?_)
            refine lv_iload X.1 X.2.1 dL_ordered_288 (lv_at hl 12 rfl) ?_
            refine lv_iload X.1 X.2.1 dL_ordered_290 (lv_at hl 0 rfl) ?_
            refine rz_eq (tgt := 302) X (by omega) dL_ordered_292 (by decide) (fun c77 => by exfalso; omega) (fun c77 => ?_)
            refine ri_const X (v := 1) dL_ordered_295 ?_
            refine lv_iload X.1 X.2.1 dL_ordered_296 (lv_at hl 5 rfl) ?_
            refine ri_shl X (by omega) dL_ordered_298 ?_
            have t78 := pw_r (k := (g (n_ : Int))) (by omega)
            refine lv_goto (tgt := 303) X.1 X.2.1 dL_ordered_299 (by decide) ?_
            refine ri_add X (v := ((psb (SEEN g n_) (T 0).toNat) + (pw (g (n_ : Int))))) rfl dL_ordered_303 ?_
            refine lv_istore (lv' := [(7, .int (iI ((psb (SEEN g n_) (T 0).toNat) + (pw (g (n_ : Int)))))), (6, .int (iI 1)), (14, .int (iI (PK (g (n_ : Int))))), (13, .int (iI (PK (LST g n_)))), (12, .int (iI (SC T Y V (g (n_ : Int))))), (11, .int (iI (SC T Y V (LST g n_)))), (10, .int (iI (g (n_ : Int)))), (0, .ref (G.2.2 0)), (1, .ref (G.2.2 57)), (2, .int (iI (cq (PSs T Y V) (T 0).toNat))), (3, .int (iI (psb (fun y_ => ¬ SC T Y V y_ = -4) (T 0).toNat))), (4, .int (iI ((S8.1 61 0) + (S8.1 62 0)))), (5, .int (iI mny)), (8, .int (iI (LST g n_))), (9, .int (iI ((n_ : Nat) : Int)))]) X.1 X.2.1 dL_ordered_304 hl (by decide) rfl (fun ls hl => ?_)
            refine lv_iload X.1 X.2.1 dL_ordered_306 (lv_at hl 6 rfl) ?_
            refine lv_istore (lv' := [(8, .int (iI (g (n_ : Int)))), (7, .int (iI ((psb (SEEN g n_) (T 0).toNat) + (pw (g (n_ : Int)))))), (6, .int (iI 1)), (14, .int (iI (PK (g (n_ : Int))))), (13, .int (iI (PK (LST g n_)))), (12, .int (iI (SC T Y V (g (n_ : Int))))), (11, .int (iI (SC T Y V (LST g n_)))), (10, .int (iI (g (n_ : Int)))), (0, .ref (G.2.2 0)), (1, .ref (G.2.2 57)), (2, .int (iI (cq (PSs T Y V) (T 0).toNat))), (3, .int (iI (psb (fun y_ => ¬ SC T Y V y_ = -4) (T 0).toNat))), (4, .int (iI ((S8.1 61 0) + (S8.1 62 0)))), (5, .int (iI mny)), (9, .int (iI ((n_ : Nat) : Int)))]) X.1 X.2.1 dL_ordered_308 hl (by decide) rfl (fun ls hl => ?_)
            refine ri_iinc X (k := 14) (v := (((n_ : Nat) : Int) + 1)) (lv' := [(9, .int (iI (((n_ : Nat) : Int) + 1))), (8, .int (iI (g (n_ : Int)))), (7, .int (iI ((psb (SEEN g n_) (T 0).toNat) + (pw (g (n_ : Int)))))), (6, .int (iI 1)), (14, .int (iI (PK (g (n_ : Int))))), (13, .int (iI (PK (LST g n_)))), (12, .int (iI (SC T Y V (g (n_ : Int))))), (11, .int (iI (SC T Y V (LST g n_)))), (10, .int (iI (g (n_ : Int)))), (0, .ref (G.2.2 0)), (1, .ref (G.2.2 57)), (2, .int (iI (cq (PSs T Y V) (T 0).toNat))), (3, .int (iI (psb (fun y_ => ¬ SC T Y V y_ = -4) (T 0).toNat))), (4, .int (iI ((S8.1 61 0) + (S8.1 62 0)))), (5, .int (iI mny))]) rfl dL_ordered_310 hl rfl (by decide) rfl (fun ls hl => ?_)
            refine lv_goto (tgt := 107) X.1 X.2.1 dL_ordered_313 (by decide) ?_
            have hl : lv_has ls 15 [(9, .int (iI (((n_ + 1) : Nat) : Int))), (8, .int (iI (g (n_ : Int)))), (7, .int (iI ((psb (SEEN g n_) (T 0).toNat) + (pw (g (n_ : Int)))))), (6, .int (iI 1)), (14, .int (iI (PK (g (n_ : Int))))), (13, .int (iI (PK (LST g n_)))), (12, .int (iI (SC T Y V (g (n_ : Int))))), (11, .int (iI (SC T Y V (LST g n_)))), (10, .int (iI (g (n_ : Int)))), (0, .ref (G.2.2 0)), (1, .ref (G.2.2 57)), (2, .int (iI (cq (PSs T Y V) (T 0).toNat))), (3, .int (iI (psb (fun y_ => ¬ SC T Y V y_ = -4) (T 0).toNat))), (4, .int (iI ((S8.1 61 0) + (S8.1 62 0)))), (5, .int (iI mny))] := by
              have e_ : (((n_ : Nat) : Int) + 1) = (((n_ + 1) : Nat) : Int) := (by omega)
              rw [← e_]; exact hl
            have hl : lv_has ls 15 [(9, .int (iI (((n_ + 1) : Nat) : Int))), (8, .int (iI (LST g (n_ + 1)))), (7, .int (iI ((psb (SEEN g n_) (T 0).toNat) + (pw (g (n_ : Int)))))), (6, .int (iI 1)), (14, .int (iI (PK (g (n_ : Int))))), (13, .int (iI (PK (LST g n_)))), (12, .int (iI (SC T Y V (g (n_ : Int))))), (11, .int (iI (SC T Y V (LST g n_)))), (10, .int (iI (g (n_ : Int)))), (0, .ref (G.2.2 0)), (1, .ref (G.2.2 57)), (2, .int (iI (cq (PSs T Y V) (T 0).toNat))), (3, .int (iI (psb (fun y_ => ¬ SC T Y V y_ = -4) (T 0).toNat))), (4, .int (iI ((S8.1 61 0) + (S8.1 62 0)))), (5, .int (iI mny))] := by
              have e_ : (g (n_ : Int)) = (LST g (n_ + 1)) := rfl
              rw [← e_]; exact hl
            have hl : lv_has ls 15 [(9, .int (iI (((n_ + 1) : Nat) : Int))), (8, .int (iI (LST g (n_ + 1)))), (7, .int (iI (psb (SEEN g (n_ + 1)) (T 0).toNat))), (6, .int (iI 1)), (14, .int (iI (PK (g (n_ : Int))))), (13, .int (iI (PK (LST g n_)))), (12, .int (iI (SC T Y V (g (n_ : Int))))), (11, .int (iI (SC T Y V (LST g n_)))), (10, .int (iI (g (n_ : Int)))), (0, .ref (G.2.2 0)), (1, .ref (G.2.2 57)), (2, .int (iI (cq (PSs T Y V) (T 0).toNat))), (3, .int (iI (psb (fun y_ => ¬ SC T Y V y_ = -4) (T 0).toNat))), (4, .int (iI ((S8.1 61 0) + (S8.1 62 0)))), (5, .int (iI mny))] := by
              have e_ : ((psb (SEEN g n_) (T 0).toNat) + (pw (g (n_ : Int)))) = (psb (SEEN g (n_ + 1)) (T 0).toNat) := (seen_add (by omega) (by omega) hb4)
              rw [← e_]; exact hl
            exact ih_107 (n_ + 1) S64 (by omega) (by omega) (hA) (LI_h hI (by omega)) _ _ I ls (lv_sub hl [9, 10, 11, 12, 13, 14, 3, 2, 1, 0] rfl)
          have hq_ := (hP (LST g n_) (by omega) (by omega)).2 (g n_) (by omega) (by omega) hl3
          refine lv_iload X.1 X.2.1 dL_ordered_211 (lv_at hl 3 rfl) ?_
          refine lv_iload X.1 X.2.1 dL_ordered_213 (lv_at hl 2 rfl) ?_
          refine rj_gt (tgt := 281) X (by omega) (by omega) dL_ordered_215 (by decide) (fun c79 => ?_) (fun c79 => ?_)
          · skip
            refine ri_const X (v := 1) dL_ordered_281 ?_
            refine lv_goto (tgt := 286) X.1 X.2.1 dL_ordered_282 (by decide) ?_
            exact jn_286_75 1 rfl _ _ I
          · skip
            refine lv_iload X.1 X.2.1 dL_ordered_218 (lv_at hl 3 rfl) ?_
            refine lv_iload X.1 X.2.1 dL_ordered_220 (lv_at hl 2 rfl) ?_
            refine rj_ne (tgt := 285) X (by omega) (by omega) dL_ordered_222 (by decide) (fun c80 => ?_) (fun c80 => ?_)
            · skip
              exfalso; omega
            · skip
              refine lv_iload X.1 X.2.1 dL_ordered_225 (lv_at hl 1 rfl) ?_
              refine lv_iload X.1 X.2.1 dL_ordered_227 (lv_at hl 0 rfl) ?_
              refine rj_gt (tgt := 281) X (by omega) (by omega) dL_ordered_229 (by decide) (fun c81 => ?_) (fun c81 => ?_)
              · skip
                refine ri_const X (v := 1) dL_ordered_281 ?_
                refine lv_goto (tgt := 286) X.1 X.2.1 dL_ordered_282 (by decide) ?_
                exact jn_286_75 1 rfl _ _ I
              · skip
                refine lv_iload X.1 X.2.1 dL_ordered_232 (lv_at hl 1 rfl) ?_
                refine lv_iload X.1 X.2.1 dL_ordered_234 (lv_at hl 0 rfl) ?_
                refine rj_ne (tgt := 285) X (by omega) (by omega) dL_ordered_236 (by decide) (fun c82 => ?_) (fun c82 => ?_)
                · skip
                  exfalso; omega
                · skip
                  refine lv_iload X.1 X.2.1 dL_ordered_239 (lv_at hl 1 rfl) ?_
                  refine rz_ne (tgt := 285) X (by omega) dL_ordered_241 (by decide) (fun c83 => ?_) (fun c83 => ?_)
                  · skip
                    exfalso; omega
                  · skip
                    have hz1 := nm_sz hT (i := LST g n_) hl1
                    have hz2 := nm_sz hT (i := g (n_ : Int)) (by omega)
                    refine lv_aload_n X.1 X.2.1 dL_ordered_244 rfl (lv_at hl 7 rfl) ?_
                    refine ri_const X (v := 1) dL_ordered_245 ?_
                    refine lv_iload X.1 X.2.1 dL_ordered_246 (lv_at hl 13 rfl) ?_
                    refine ri_add X (v := (1 + (LST g n_))) rfl dL_ordered_248 ?_
                    refine aL_lt X I (v := (T (1 + (LST g n_)))) (hA.1 (1 + (LST g n_))) (by omega) dL_ordered_249 ?_
                    refine lv_aload_n X.1 X.2.1 dL_ordered_250 rfl (lv_at hl 7 rfl) ?_
                    refine ri_const X (v := 1) dL_ordered_251 ?_
                    refine lv_iload X.1 X.2.1 dL_ordered_252 (lv_at hl 5 rfl) ?_
                    refine ri_add X (v := (1 + (g (n_ : Int)))) rfl dL_ordered_254 ?_
                    refine aL_lt X I (v := (T (1 + (g (n_ : Int))))) (hA.1 (1 + (g (n_ : Int)))) (by omega) dL_ordered_255 ?_
                    refine rj_lt (tgt := 281) X (by omega) (by omega) dL_ordered_256 (by decide) (fun c84 => ?_) (fun c84 => ?_)
                    · skip
                      refine ri_const X (v := 1) dL_ordered_281 ?_
                      refine lv_goto (tgt := 286) X.1 X.2.1 dL_ordered_282 (by decide) ?_
                      exact jn_286_75 1 rfl _ _ I
                    · skip
                      refine lv_aload_n X.1 X.2.1 dL_ordered_259 rfl (lv_at hl 7 rfl) ?_
                      refine ri_const X (v := 1) dL_ordered_260 ?_
                      refine lv_iload X.1 X.2.1 dL_ordered_261 (lv_at hl 13 rfl) ?_
                      refine ri_add X (v := (1 + (LST g n_))) rfl dL_ordered_263 ?_
                      refine aL_lt X I (v := (T (1 + (LST g n_)))) (hA.1 (1 + (LST g n_))) (by omega) dL_ordered_264 ?_
                      refine lv_aload_n X.1 X.2.1 dL_ordered_265 rfl (lv_at hl 7 rfl) ?_
                      refine ri_const X (v := 1) dL_ordered_266 ?_
                      refine lv_iload X.1 X.2.1 dL_ordered_267 (lv_at hl 5 rfl) ?_
                      refine ri_add X (v := (1 + (g (n_ : Int)))) rfl dL_ordered_269 ?_
                      refine aL_lt X I (v := (T (1 + (g (n_ : Int))))) (hA.1 (1 + (g (n_ : Int)))) (by omega) dL_ordered_270 ?_
                      refine rj_ne (tgt := 285) X (by omega) (by omega) dL_ordered_271 (by decide) (fun c85 => ?_) (fun c85 => ?_)
                      · skip
                        exfalso; omega
                      · skip
                        refine lv_iload X.1 X.2.1 dL_ordered_274 (lv_at hl 13 rfl) ?_
                        refine lv_iload X.1 X.2.1 dL_ordered_276 (lv_at hl 5 rfl) ?_
                        refine rj_ge (tgt := 285) X (by omega) (by omega) dL_ordered_278 (by decide) (fun c86 => ?_) (fun c86 => ?_)
                        · skip
                          exfalso; omega
                        · skip
                          refine ri_const X (v := 1) dL_ordered_281 ?_
                          refine lv_goto (tgt := 286) X.1 X.2.1 dL_ordered_282 (by decide) ?_
                          exact jn_286_75 1 rfl _ _ I
  have hl : lv_has ls 15 [(9, .int (iI ((0 : Nat) : Int))), (8, .int (iI (-1))), (7, .int (iI 0)), (6, .int (iI 1)), (5, .int (iI mny)), (4, .int (iI ((S8.1 61 0) + (S8.1 62 0)))), (3, .int (iI (psb (fun y_ => ¬ SC T Y V y_ = -4) (T 0).toNat))), (2, .int (iI (cq (PSs T Y V) (T 0).toNat))), (0, .ref (G.2.2 0)), (1, .ref (G.2.2 57))] := by
    have e_ : 0 = ((0 : Nat) : Int) := rfl
    rw [← e_]; exact hl
  have hl : lv_has ls 15 [(9, .int (iI ((0 : Nat) : Int))), (8, .int (iI (LST g 0))), (7, .int (iI 0)), (6, .int (iI 1)), (5, .int (iI mny)), (4, .int (iI ((S8.1 61 0) + (S8.1 62 0)))), (3, .int (iI (psb (fun y_ => ¬ SC T Y V y_ = -4) (T 0).toNat))), (2, .int (iI (cq (PSs T Y V) (T 0).toNat))), (0, .ref (G.2.2 0)), (1, .ref (G.2.2 57))] := by
    have e_ : (-1) = (LST g 0) := rfl
    rw [← e_]; exact hl
  have hl : lv_has ls 15 [(9, .int (iI ((0 : Nat) : Int))), (8, .int (iI (LST g 0))), (7, .int (iI (psb (SEEN g 0) (T 0).toNat))), (6, .int (iI 1)), (5, .int (iI mny)), (4, .int (iI ((S8.1 61 0) + (S8.1 62 0)))), (3, .int (iI (psb (fun y_ => ¬ SC T Y V y_ = -4) (T 0).toNat))), (2, .int (iI (cq (PSs T Y V) (T 0).toNat))), (0, .ref (G.2.2 0)), (1, .ref (G.2.2 57))] := by
    have e_ : 0 = (psb (SEEN g 0) (T 0).toNat) := (psb_none (fun y_ _ _ z_ => by obtain ⟨j_, p_, -⟩ := z_; omega)).symm
    rw [← e_]; exact hl
  exact lp_107 (10) 0 S38 (by omega) (by omega) (hA) (LI_h hI (by omega)) _ _ I ls (lv_sub hl [8, 9, 7, 6, 5, 4, 3, 2, 1, 0] rfl)

theorem ok_L_first : yL_first.cls ≠ "java/lang/invoke/MethodHandle" ∧ yL_first.cls ≠ "java/lang/invoke/VarHandle" ∧ (parseMethodDescriptor yL_first.desc).map (fun d => d.parameters.length) = some 3 := ⟨by decide +kernel, by decide +kernel, by decide +kernel⟩
abbrev po_L_first (T Y V HD PK : Int → Int) (B AG TK h : Int)  : Int → St → Prop := fun r S1 => r = 1 ∧ LI T Y V PK B AG TK 0 (h + 8) S1 ∧ AR T Y V HD S1
abbrev rm_L_first : Room := ({ frames := 8, cells := 0, slots := 0, locals := 180 } : Room)
set_option maxRecDepth 100000 in
set_option maxHeartbeats 4000000 in
theorem k_L_first (l : Launch) (A : Nat → Prop) (G : Ge) (S : St) (T Y V HD PK : Int → Int) (B AG TK h : Int) (n : Int) (hA : AR T Y V HD S) (hT : TOK T Y) (hV : VOK V) (hI : LI T Y V PK B AG TK 0 h S) (hn0 : 0 ≤ n ∧ n < T 0) (hh : h + 8 ≤ 4800) : Ki (KL A G) l yL_first cL_first 6 .boolean rm_L_first [.ref (G.2.2 0), .int (iI n), .ref (G.2.2 59)] S (po_L_first T Y V HD PK B AG TK h) := by
  refine K_start (own := "NameSeekerLaw") (by decide +kernel) rfl (Nat.le_of_ble_eq_true rfl) ?_
  intro p e s m args below meth c X hr hlk I ls hl
  have hl : lv_has ls 6 [(0, .ref (G.2.2 0)), (1, .int (iI n)), (2, .ref (G.2.2 59))] := hl
  have hT0 := hT.1
  have hV0 := hV.1
  refine lv_aload_n X.1 X.2.1 dL_first_0 rfl (lv_at hl 0 rfl) ?_
  refine lv_iload_n X.1 X.2.1 dL_first_1 rfl (lv_at hl 1 rfl) ?_
  refine clx_i I (runV (As := [.int (iI n)]) (rest := []) X (k_X9_brief l G S n (by omega) 600 hI.1) (gdC tb_643 (gdC tb_644 (gdC tb_645 (gdC tb_14 (gdC tb_646 gdB))))) ⟨ok_X9_brief, ⟨Nat.le_of_ble_eq_true rfl, Nat.le_of_ble_eq_true rfl⟩, rfl, rfl⟩ (PreV.ofL I) rfl hl.1 rfl (Nat.le_of_ble_eq_true rfl) dL_first_2 ⟨Nat.zero_le _, Nat.zero_le _⟩) (fun _ _ q_ => f7_brief q_) (fun r1 S2 H locs q3 I => ?_)
  have hA := AR_fr (f7_brief q3) hA
  obtain ⟨hb, hI, hfr_⟩ := op_brief hT hI (by omega) hn0 q3
  have hbr : -4 ≤ r1 ∧ r1 ≤ 728 := by rcases hb with h_ | ⟨a_, b_, h1_, h2_, h3_, -⟩ <;> omega
  try clear q3
  refine lv_istore_n (lv' := [(3, .int (iI r1)), (0, .ref (G.2.2 0)), (1, .int (iI n)), (2, .ref (G.2.2 59))]) X.1 X.2.1 dL_first_5 rfl hl (by decide) rfl (fun ls hl => ?_)
  refine lv_iload_n X.1 X.2.1 dL_first_6 rfl (lv_at hl 0 rfl) ?_
  refine ri_push X (v := (-4)) (by decide) dL_first_7 ?_
  refine rj_ne (tgt := 14) X (by omega) (by omega) dL_first_9 (by decide) (fun c4 => ?_) (fun c4 => ?_)
  · skip
    obtain ⟨a_, b_, ha_, hb_, e_, hfb⟩ := hb.resolve_left (by assumption)
    refine lv_iload_n X.1 X.2.1 dL_first_14 rfl (lv_at hl 0 rfl) ?_
    refine ri_push X (v := 27) (by decide) dL_first_15 ?_
    refine ri_div X (v := (r1 / 27)) rfl (by omega) (by omega) dL_first_17 ?_
    refine ri_const X (v := 1) dL_first_18 ?_
    refine rj_lt (tgt := 52) X (by omega) (by omega) dL_first_19 (by decide) (fun c5 => by exfalso; omega) (fun c5 => ?_)
    refine lv_iload_n X.1 X.2.1 dL_first_22 rfl (lv_at hl 0 rfl) ?_
    refine ri_push X (v := 27) (by decide) dL_first_23 ?_
    refine ri_div X (v := (r1 / 27)) rfl (by omega) (by omega) dL_first_25 ?_
    refine ri_push X (v := 26) (by decide) dL_first_26 ?_
    refine rj_gt (tgt := 52) X (by omega) (by omega) dL_first_28 (by decide) (fun c6 => by exfalso; omega) (fun c6 => ?_)
    refine lv_iload_n X.1 X.2.1 dL_first_31 rfl (lv_at hl 0 rfl) ?_
    refine ri_push X (v := 27) (by decide) dL_first_32 ?_
    refine ri_rem X (v := (r1 % 27)) rfl (by omega) (by omega) dL_first_34 ?_
    refine ri_push X (v := 26) (by decide) dL_first_35 ?_
    refine rj_gt (tgt := 52) X (by omega) (by omega) dL_first_37 (by decide) (fun c7 => by exfalso; omega) (fun c7 => ?_)
    refine lv_aload_n X.1 X.2.1 dL_first_40 rfl (lv_at hl 1 rfl) ?_
    refine clx_i I (runV (As := []) (rest := []) X (k_X9_keep l G S2   600 hI.1) (gdC tb_655 (gdC tb_656 (gdC tb_657 (gdC tb_14 (gdC tb_658 gdB))))) ⟨ok_X9_keep, ⟨Nat.le_of_ble_eq_true rfl, Nat.le_of_ble_eq_true rfl⟩, rfl, rfl⟩ (PreV.ofL I) rfl hl.1 rfl (Nat.le_of_ble_eq_true rfl) dL_first_41 ⟨Nat.zero_le _, Nat.zero_le _⟩) (fun _ _ q_ => f7_keep q_) (fun r8 S9 H locs q10 I => ?_)
    have hA := AR_fr (f7_keep q10) hA
    obtain ⟨e_, hI, hw⟩ := op_keep hV hI q10
    subst e_
    try clear q10
    refine ri_const X (v := 1) dL_first_44 ?_
    refine rj_ne (tgt := 52) X (by omega) (by omega) dL_first_45 (by decide) (fun c11 => by exfalso; omega) (fun c11 => ?_)
    refine ri_const X (v := 1) dL_first_48 ?_
    refine lv_goto (tgt := 53) X.1 X.2.1 dL_first_49 (by decide) ?_
    refine lv_istore (lv' := [(4, .int (iI 1)), (3, .int (iI r1)), (0, .ref (G.2.2 0)), (1, .int (iI n)), (2, .ref (G.2.2 59))]) X.1 X.2.1 dL_first_53 hl (by decide) rfl (fun ls hl => ?_)
    refine ri_const X (v := 0) dL_first_55 ?_
    refine lv_istore (lv' := [(5, .int (iI 0)), (4, .int (iI 1)), (3, .int (iI r1)), (0, .ref (G.2.2 0)), (1, .int (iI n)), (2, .ref (G.2.2 59))]) X.1 X.2.1 dL_first_56 hl (by decide) rfl (fun ls hl => ?_)
    have lp_58 : ∀ (fu_ : Nat) (n_ : Nat) (U : St), 9 - n_ < fu_ → ∀ (hn : (n_ : Int) ≤ V 0) (hA : AR T Y V HD U) (hVD : VOK (VD V n_)) (hI : LI T Y (VD V n_) PK B AG TK 1 h U) (hw : KW V U) (H : Heap) (locs : List Loc), In (KL A G) s s.heap H locs U → ∀ ls : Array Slot, lv_has ls 6 [(0, .ref (G.2.2 0)), (1, .int (iI n)), (2, .ref (G.2.2 59)), (3, .int (iI r1)), (4, .int (iI 1)), (5, .int (iI ((n_ : Nat) : Int)))] → W p l e rm_L_first s m args below meth c H locs 0 0 (MQ below (QI (KL A G) (po_L_first T Y V HD PK B AG TK h)) args s 0 0 A) (F0 m 58 ls []) := by
      intro fu_
      induction fu_ with
      | zero => intro n_ U hm; exact absurd hm (by omega)
      | succ fu_ ih_58 =>
        intro n_ U hm_58 hn hA hVD hI hw H locs I ls hl
        refine lv_iload X.1 X.2.1 dL_first_58 (lv_at hl 5 rfl) ?_
        refine lv_aload_n X.1 X.2.1 dL_first_60 rfl (lv_at hl 2 rfl) ?_
        refine ri_const X (v := 0) dL_first_61 ?_
        refine aL_lw X I (v := (V 0)) (hA.2.2.1 0) (by omega) dL_first_62 ?_
        refine rj_ge (tgt := 99) X (by omega) (by omega) dL_first_63 (by decide) (fun c12 => ?_) (fun c12 => ?_)
        · skip
          refine lv_iload X.1 X.2.1 dL_first_99 (lv_at hl 4 rfl) ?_
          refine rz_eq (tgt := 181) X (by omega) dL_first_101 (by decide) (fun c13 => by exfalso; omega) (fun c13 => ?_)
          refine lv_aload_n X.1 X.2.1 dL_first_104 rfl (lv_at hl 0 rfl) ?_
          refine ri_push X (v := 96) (by decide) dL_first_105 ?_
          refine lv_iload_n X.1 X.2.1 dL_first_107 rfl (lv_at hl 3 rfl) ?_
          refine ri_push X (v := 27) (by decide) dL_first_108 ?_
          refine ri_div X (v := (r1 / 27)) rfl (by omega) (by omega) dL_first_110 ?_
          refine ri_add X (v := (96 + (r1 / 27))) rfl dL_first_111 ?_
          refine clx_i I (runV (As := [.int (iI (96 + (r1 / 27)))]) (rest := []) X (k_X9_type l G U (96 + (r1 / 27)) (by omega) 600 hI.1) (gdC tb_429 (gdC tb_430 (gdC tb_431 (gdC tb_14 (gdC tb_432 gdB))))) ⟨ok_X9_type, ⟨Nat.le_of_ble_eq_true rfl, Nat.le_of_ble_eq_true rfl⟩, rfl, rfl⟩ (PreV.ofL I) rfl hl.1 rfl (Nat.le_of_ble_eq_true rfl) dL_first_112 ⟨Nat.zero_le _, Nat.zero_le _⟩) (fun _ _ q_ => f7_type q_) (fun r14 S15 H locs q16 I => ?_)
          have hA := AR_fr (f7_type q16) hA
          have hd0 := VD_h V n_
          have ht0 : VB a_ 0 0 = 1 := rfl
          have hva0 := VB_ok ha_ (show (0 : Int) ≤ 0 ∧ (0 : Int) ≤ 26 by omega)
          obtain ⟨e2_, hI, hf_⟩ := op_type (V2 := VB a_ 0) hVD hI (by omega) (by unfold ltr; omega) ⟨by omega, fun k_ p_ q_ => absurd q_ (by omega), by rw [hd0, show 1 + (V 0 - (n_ : Int)) = 1 by omega]; show 96 + a_ = _; omega⟩ q16
          have hw := KW_fr (fun c_ i_ z_ => hf_ c_ i_ (by omega) (by omega)) hw
          have e3_ : r14 = 1 := by omega
          subst e3_
          try clear q16
          refine ri_const X (v := 1) dL_first_115 ?_
          refine rj_ne (tgt := 181) X (by omega) (by omega) dL_first_116 (by decide) (fun c17 => by exfalso; omega) (fun c17 => ?_)
          refine lv_iload_n X.1 X.2.1 dL_first_119 rfl (lv_at hl 3 rfl) ?_
          refine ri_push X (v := 27) (by decide) dL_first_120 ?_
          refine ri_rem X (v := (r1 % 27)) rfl (by omega) (by omega) dL_first_122 ?_
          refine rz_eq (tgt := 141) X (by omega) dL_first_123 (by decide) (fun c18 => ?_) (fun c18 => ?_)
          · skip
            have hI : LI T Y (VB a_ b_) PK B AG TK 1 h S15 := by
              first
                | exact hI
                | (have hb0_ : b_ = 0 := by omega
                   rw [hb0_]; exact hI)
            refine lv_aload_n X.1 X.2.1 dL_first_141 rfl (lv_at hl 0 rfl) ?_
            refine ri_const X (v := 0) dL_first_142 ?_
            refine clx_i I (runV (As := [.int (iI 0)]) (rest := []) X (k_X9_list l G S15 0 (by omega) 600 hI.1) (gdC tb_609 (gdC tb_610 (gdC tb_611 (gdC tb_14 (gdC tb_612 gdB))))) ⟨ok_X9_list, ⟨Nat.le_of_ble_eq_true rfl, Nat.le_of_ble_eq_true rfl⟩, rfl, rfl⟩ (PreV.ofL I) rfl hl.1 rfl (Nat.le_of_ble_eq_true rfl) dL_first_143 ⟨Nat.zero_le _, Nat.zero_le _⟩) (fun _ _ q_ => f7_list q_) (fun r19 S20 H locs q21 I => ?_)
            have hA := AR_fr (f7_list q21) hA
            obtain ⟨g_, mny_, hk_, hI, -, -, hr_, hf_⟩ := op_list hT (VB_ok ha_ hb_) hI (by omega) (by omega) q21
            clear q21
            have hw := KW_fr (fun c_ i_ z_ => hf_ c_ i_ (by omega)) hw
            obtain ⟨u1_, u2_⟩ := RKL_fst hn0 hk_ hfb
            have e4_ := hr_ (by omega)
            rw [if_pos (by omega), u2_] at e4_
            rw [e4_]
            clear e4_
            try clear q21
            refine lv_iload_n X.1 X.2.1 dL_first_146 rfl (lv_at hl 1 rfl) ?_
            refine rj_ne (tgt := 181) X (by omega) (by omega) dL_first_147 (by decide) (fun c22 => by exfalso; omega) (fun c22 => ?_)
            refine lv_aload_n X.1 X.2.1 dL_first_150 rfl (lv_at hl 0 rfl) ?_
            refine clx_i I (runV (As := []) (rest := []) X (k_X9_back l G S20   600 hI.1) (gdC tb_663 (gdC tb_664 (gdC tb_665 (gdC tb_14 (gdC tb_666 gdB))))) ⟨ok_X9_back, ⟨Nat.le_of_ble_eq_true rfl, Nat.le_of_ble_eq_true rfl⟩, rfl, rfl⟩ (PreV.ofL I) rfl hl.1 rfl (Nat.le_of_ble_eq_true rfl) dL_first_151 ⟨Nat.zero_le _, Nat.zero_le _⟩) (fun _ _ q_ => f7_back (by rw [hI.2.2.2.2.1.2.2.2]; decide) q_) (fun r23 S24 H locs q25 I => ?_)
            have hA := AR_fr (f7_back (by rw [hI.2.2.2.2.1.2.2.2]; decide) q25) hA
            obtain ⟨e4_, hI⟩ := op_back hV hI hw q25
            subst e4_
            try clear q25
            refine rz_ne (tgt := 181) X (by omega) dL_first_154 (by decide) (fun c26 => by exfalso; omega) (fun c26 => ?_)
            refine lv_aload_n X.1 X.2.1 dL_first_157 rfl (lv_at hl 0 rfl) ?_
            refine clx_i I (runV (As := []) (rest := []) X (k_X9_back l G S24   600 hI.1) (gdC tb_663 (gdC tb_664 (gdC tb_665 (gdC tb_14 (gdC tb_666 gdB))))) ⟨ok_X9_back, ⟨Nat.le_of_ble_eq_true rfl, Nat.le_of_ble_eq_true rfl⟩, rfl, rfl⟩ (PreV.ofL I) rfl hl.1 rfl (Nat.le_of_ble_eq_true rfl) dL_first_158 ⟨Nat.zero_le _, Nat.zero_le _⟩) (fun _ _ q_ => f7_back (by rw [hI.2.2.2.2.1.2.2.2]; decide) q_) (fun r27 S28 H locs q29 I => ?_)
            have hA := AR_fr (f7_back (by rw [hI.2.2.2.2.1.2.2.2]; decide) q29) hA
            obtain ⟨e_, es_⟩ := op_back0 hI q29
            rw [es_] at I hA
            subst e_
            try clear q29
            refine ri_push X (v := (-2)) (by decide) dL_first_161 ?_
            refine rj_ne (tgt := 181) X (by omega) (by omega) dL_first_163 (by decide) (fun c30 => by exfalso; omega) (fun c30 => ?_)
            refine lv_aload_n X.1 X.2.1 dL_first_166 rfl (lv_at hl 0 rfl) ?_
            refine ri_const X (v := (-1)) dL_first_167 ?_
            refine clx_i I (runV (As := [.int (iI (-1))]) (rest := []) X (k_X9_word l G S24 (-1) (by omega) 600 hI.1) (gdC tb_531 (gdC tb_532 (gdC tb_533 (gdC tb_14 (gdC tb_534 gdB))))) ⟨ok_X9_word, ⟨Nat.le_of_ble_eq_true rfl, Nat.le_of_ble_eq_true rfl⟩, rfl, rfl⟩ (PreV.ofL I) rfl hl.1 rfl (Nat.le_of_ble_eq_true rfl) dL_first_168 ⟨Nat.zero_le _, Nat.zero_le _⟩) (fun _ _ q_ => f7_word q_) (fun r31 S32 H locs q33 I => ?_)
            have hA := AR_fr (f7_word q33) hA
            obtain ⟨e_, es_⟩ := wrd_m hI q33
            rw [es_] at I hA
            subst e_
            try clear q33
            refine lv_aload_n X.1 X.2.1 dL_first_171 rfl (lv_at hl 2 rfl) ?_
            refine ri_const X (v := 0) dL_first_172 ?_
            refine aL_lw X I (v := (V 0)) (hA.2.2.1 0) (by omega) dL_first_173 ?_
            refine rj_ne (tgt := 181) X (by omega) (by omega) dL_first_174 (by decide) (fun c34 => by exfalso; omega) (fun c34 => ?_)
            refine ri_const X (v := 1) dL_first_177 ?_
            refine lv_goto (tgt := 182) X.1 X.2.1 dL_first_178 (by decide) ?_
            refine lv_istore (lv' := [(4, .int (iI 1)), (0, .ref (G.2.2 0)), (1, .int (iI n)), (2, .ref (G.2.2 59)), (3, .int (iI r1)), (5, .int (iI ((n_ : Nat) : Int)))]) X.1 X.2.1 dL_first_182 hl (by decide) rfl (fun ls hl => ?_)
            refine ri_const X (v := 0) dL_first_184 ?_
            refine lv_istore (lv' := [(5, .int (iI 0)), (4, .int (iI 1)), (0, .ref (G.2.2 0)), (1, .int (iI n)), (2, .ref (G.2.2 59)), (3, .int (iI r1))]) X.1 X.2.1 dL_first_185 hl (by decide) rfl (fun ls hl => ?_)
            have lp_187 : ∀ (fu_ : Nat) (k_ : Nat) (U2 : St), 9 - k_ < fu_ → ∀ (hk : (k_ : Int) ≤ V 0) (hA : AR T Y V HD U2) (hI : LI T Y V PK B AG TK 0 (h + 8) U2) (H : Heap) (locs : List Loc), In (KL A G) s s.heap H locs U2 → ∀ ls : Array Slot, lv_has ls 6 [(0, .ref (G.2.2 0)), (1, .int (iI n)), (2, .ref (G.2.2 59)), (3, .int (iI r1)), (4, .int (iI 1)), (5, .int (iI ((k_ : Nat) : Int)))] → W p l e rm_L_first s m args below meth c H locs 0 0 (MQ below (QI (KL A G) (po_L_first T Y V HD PK B AG TK h)) args s 0 0 A) (F0 m 187 ls []) := by
              intro fu_
              induction fu_ with
              | zero => intro k_ U2 hm; exact absurd hm (by omega)
              | succ fu_ ih_187 =>
                intro k_ U2 hm_187 hk hA hI H locs I ls hl
                refine lv_iload X.1 X.2.1 dL_first_187 (lv_at hl 5 rfl) ?_
                refine lv_aload_n X.1 X.2.1 dL_first_189 rfl (lv_at hl 2 rfl) ?_
                refine ri_const X (v := 0) dL_first_190 ?_
                refine aL_lw X I (v := (V 0)) (hA.2.2.1 0) (by omega) dL_first_191 ?_
                refine rj_ge (tgt := 228) X (by omega) (by omega) dL_first_192 (by decide) (fun c35 => ?_) (fun c35 => ?_)
                · skip
                  refine lv_iload X.1 X.2.1 dL_first_228 (lv_at hl 4 rfl) ?_
                  exact rt_i X hr hlk I (by rfl) (⟨rfl, hI, hA⟩) dL_first_230
                · skip
                  refine lv_iload X.1 X.2.1 dL_first_195 (lv_at hl 4 rfl) ?_
                  refine rz_eq (tgt := 228) X (by omega) dL_first_197 (by decide) (fun c36 => by exfalso; omega) (fun c36 => ?_)
                  have hl_ := hV.2 k_ (by omega) (by omega)
                  unfold ltr at hl_
                  refine lv_aload_n X.1 X.2.1 dL_first_200 rfl (lv_at hl 0 rfl) ?_
                  refine lv_iload X.1 X.2.1 dL_first_201 (lv_at hl 5 rfl) ?_
                  refine clx_i I (runV (As := [.int (iI ((k_ : Nat) : Int))]) (rest := []) X (k_X9_word l G U2 ((k_ : Nat) : Int) (by omega) 600 hI.1) (gdC tb_531 (gdC tb_532 (gdC tb_533 (gdC tb_14 (gdC tb_534 gdB))))) ⟨ok_X9_word, ⟨Nat.le_of_ble_eq_true rfl, Nat.le_of_ble_eq_true rfl⟩, rfl, rfl⟩ (PreV.ofL I) rfl hl.1 rfl (Nat.le_of_ble_eq_true rfl) dL_first_203 ⟨Nat.zero_le _, Nat.zero_le _⟩) (fun _ _ q_ => f7_word q_) (fun r37 S38 H locs q39 I => ?_)
                  have hA := AR_fr (f7_word q39) hA
                  obtain ⟨e_, es_⟩ := wrd_k hI (by omega) q39
                  rw [es_] at I hA
                  subst e_
                  try clear q39
                  refine lv_aload_n X.1 X.2.1 dL_first_206 rfl (lv_at hl 2 rfl) ?_
                  refine ri_const X (v := 1) dL_first_207 ?_
                  refine lv_iload X.1 X.2.1 dL_first_208 (lv_at hl 5 rfl) ?_
                  refine ri_add X (v := (1 + ((k_ : Nat) : Int))) rfl dL_first_210 ?_
                  refine aL_lw X I (v := (V (1 + ((k_ : Nat) : Int)))) (hA.2.2.1 (1 + ((k_ : Nat) : Int))) (by omega) dL_first_211 ?_
                  refine rj_ne (tgt := 219) X (by omega) (by omega) dL_first_212 (by decide) (fun c40 => by exfalso; omega) (fun c40 => ?_)
                  refine ri_const X (v := 1) dL_first_215 ?_
                  refine lv_goto (tgt := 220) X.1 X.2.1 dL_first_216 (by decide) ?_
                  refine lv_istore (lv' := [(4, .int (iI 1)), (0, .ref (G.2.2 0)), (1, .int (iI n)), (2, .ref (G.2.2 59)), (3, .int (iI r1)), (5, .int (iI ((k_ : Nat) : Int)))]) X.1 X.2.1 dL_first_220 hl (by decide) rfl (fun ls hl => ?_)
                  refine ri_iinc X (k := 5) (v := (((k_ : Nat) : Int) + 1)) (lv' := [(5, .int (iI (((k_ : Nat) : Int) + 1))), (4, .int (iI 1)), (0, .ref (G.2.2 0)), (1, .int (iI n)), (2, .ref (G.2.2 59)), (3, .int (iI r1))]) rfl dL_first_222 hl rfl (by decide) rfl (fun ls hl => ?_)
                  refine lv_goto (tgt := 187) X.1 X.2.1 dL_first_225 (by decide) ?_
                  have hl : lv_has ls 6 [(5, .int (iI (((k_ + 1) : Nat) : Int))), (4, .int (iI 1)), (0, .ref (G.2.2 0)), (1, .int (iI n)), (2, .ref (G.2.2 59)), (3, .int (iI r1))] := by
                    have e_ : (((k_ : Nat) : Int) + 1) = (((k_ + 1) : Nat) : Int) := (by omega)
                    rw [← e_]; exact hl
                  exact ih_187 (k_ + 1) U2 (by omega) (by omega) (hA) (hI) _ _ I ls (lv_sub hl [2, 3, 4, 5, 1, 0] rfl)
            have hl : lv_has ls 6 [(5, .int (iI ((0 : Nat) : Int))), (4, .int (iI 1)), (0, .ref (G.2.2 0)), (1, .int (iI n)), (2, .ref (G.2.2 59)), (3, .int (iI r1))] := by
              have e_ : 0 = ((0 : Nat) : Int) := rfl
              rw [← e_]; exact hl
            exact lp_187 (10) 0 S24 (by omega) (by omega) (hA) (hI) _ _ I ls (lv_sub hl [2, 3, 4, 5, 1, 0] rfl)
          · skip
            refine lv_aload_n X.1 X.2.1 dL_first_126 rfl (lv_at hl 0 rfl) ?_
            refine ri_push X (v := 96) (by decide) dL_first_127 ?_
            refine lv_iload_n X.1 X.2.1 dL_first_129 rfl (lv_at hl 3 rfl) ?_
            refine ri_push X (v := 27) (by decide) dL_first_130 ?_
            refine ri_rem X (v := (r1 % 27)) rfl (by omega) (by omega) dL_first_132 ?_
            refine ri_add X (v := (96 + (r1 % 27))) rfl dL_first_133 ?_
            refine clx_i I (runV (As := [.int (iI (96 + (r1 % 27)))]) (rest := []) X (k_X9_type l G S15 (96 + (r1 % 27)) (by omega) 600 hI.1) (gdC tb_429 (gdC tb_430 (gdC tb_431 (gdC tb_14 (gdC tb_432 gdB))))) ⟨ok_X9_type, ⟨Nat.le_of_ble_eq_true rfl, Nat.le_of_ble_eq_true rfl⟩, rfl, rfl⟩ (PreV.ofL I) rfl hl.1 rfl (Nat.le_of_ble_eq_true rfl) dL_first_134 ⟨Nat.zero_le _, Nat.zero_le _⟩) (fun _ _ q_ => f7_type q_) (fun r41 S42 H locs q43 I => ?_)
            have hA := AR_fr (f7_type q43) hA
            have htb : VB a_ b_ 0 = 2 := by show tm b_ = 2; unfold tm; rw [if_pos (by omega)]
            obtain ⟨e2_, hI, hf_⟩ := op_type (V2 := VB a_ b_) hva0 hI (by omega) (by unfold ltr; omega) ⟨by omega, fun k_ p_ q_ => by rw [show k_ = 0 by omega]; rfl, by rw [ht0]; show 96 + b_ = _; omega⟩ q43
            have hw := KW_fr (fun c_ i_ z_ => hf_ c_ i_ (by omega) (by omega)) hw
            have e3_ : r41 = 2 := by omega
            subst e3_
            try clear q43
            refine ri_const X (v := 2) dL_first_137 ?_
            refine rj_ne (tgt := 181) X (by omega) (by omega) dL_first_138 (by decide) (fun c44 => by exfalso; omega) (fun c44 => ?_)
            have hI : LI T Y (VB a_ b_) PK B AG TK 1 h S42 := by
              first
                | exact hI
                | (have hb0_ : b_ = 0 := by omega
                   rw [hb0_]; exact hI)
            refine lv_aload_n X.1 X.2.1 dL_first_141 rfl (lv_at hl 0 rfl) ?_
            refine ri_const X (v := 0) dL_first_142 ?_
            refine clx_i I (runV (As := [.int (iI 0)]) (rest := []) X (k_X9_list l G S42 0 (by omega) 600 hI.1) (gdC tb_609 (gdC tb_610 (gdC tb_611 (gdC tb_14 (gdC tb_612 gdB))))) ⟨ok_X9_list, ⟨Nat.le_of_ble_eq_true rfl, Nat.le_of_ble_eq_true rfl⟩, rfl, rfl⟩ (PreV.ofL I) rfl hl.1 rfl (Nat.le_of_ble_eq_true rfl) dL_first_143 ⟨Nat.zero_le _, Nat.zero_le _⟩) (fun _ _ q_ => f7_list q_) (fun r45 S46 H locs q47 I => ?_)
            have hA := AR_fr (f7_list q47) hA
            obtain ⟨g_, mny_, hk_, hI, -, -, hr_, hf_⟩ := op_list hT (VB_ok ha_ hb_) hI (by omega) (by omega) q47
            clear q47
            have hw := KW_fr (fun c_ i_ z_ => hf_ c_ i_ (by omega)) hw
            obtain ⟨u1_, u2_⟩ := RKL_fst hn0 hk_ hfb
            have e4_ := hr_ (by omega)
            rw [if_pos (by omega), u2_] at e4_
            rw [e4_]
            clear e4_
            try clear q47
            refine lv_iload_n X.1 X.2.1 dL_first_146 rfl (lv_at hl 1 rfl) ?_
            refine rj_ne (tgt := 181) X (by omega) (by omega) dL_first_147 (by decide) (fun c48 => by exfalso; omega) (fun c48 => ?_)
            refine lv_aload_n X.1 X.2.1 dL_first_150 rfl (lv_at hl 0 rfl) ?_
            refine clx_i I (runV (As := []) (rest := []) X (k_X9_back l G S46   600 hI.1) (gdC tb_663 (gdC tb_664 (gdC tb_665 (gdC tb_14 (gdC tb_666 gdB))))) ⟨ok_X9_back, ⟨Nat.le_of_ble_eq_true rfl, Nat.le_of_ble_eq_true rfl⟩, rfl, rfl⟩ (PreV.ofL I) rfl hl.1 rfl (Nat.le_of_ble_eq_true rfl) dL_first_151 ⟨Nat.zero_le _, Nat.zero_le _⟩) (fun _ _ q_ => f7_back (by rw [hI.2.2.2.2.1.2.2.2]; decide) q_) (fun r49 S50 H locs q51 I => ?_)
            have hA := AR_fr (f7_back (by rw [hI.2.2.2.2.1.2.2.2]; decide) q51) hA
            obtain ⟨e4_, hI⟩ := op_back hV hI hw q51
            subst e4_
            try clear q51
            refine rz_ne (tgt := 181) X (by omega) dL_first_154 (by decide) (fun c52 => by exfalso; omega) (fun c52 => ?_)
            refine lv_aload_n X.1 X.2.1 dL_first_157 rfl (lv_at hl 0 rfl) ?_
            refine clx_i I (runV (As := []) (rest := []) X (k_X9_back l G S50   600 hI.1) (gdC tb_663 (gdC tb_664 (gdC tb_665 (gdC tb_14 (gdC tb_666 gdB))))) ⟨ok_X9_back, ⟨Nat.le_of_ble_eq_true rfl, Nat.le_of_ble_eq_true rfl⟩, rfl, rfl⟩ (PreV.ofL I) rfl hl.1 rfl (Nat.le_of_ble_eq_true rfl) dL_first_158 ⟨Nat.zero_le _, Nat.zero_le _⟩) (fun _ _ q_ => f7_back (by rw [hI.2.2.2.2.1.2.2.2]; decide) q_) (fun r53 S54 H locs q55 I => ?_)
            have hA := AR_fr (f7_back (by rw [hI.2.2.2.2.1.2.2.2]; decide) q55) hA
            obtain ⟨e_, es_⟩ := op_back0 hI q55
            rw [es_] at I hA
            subst e_
            try clear q55
            refine ri_push X (v := (-2)) (by decide) dL_first_161 ?_
            refine rj_ne (tgt := 181) X (by omega) (by omega) dL_first_163 (by decide) (fun c56 => by exfalso; omega) (fun c56 => ?_)
            refine lv_aload_n X.1 X.2.1 dL_first_166 rfl (lv_at hl 0 rfl) ?_
            refine ri_const X (v := (-1)) dL_first_167 ?_
            refine clx_i I (runV (As := [.int (iI (-1))]) (rest := []) X (k_X9_word l G S50 (-1) (by omega) 600 hI.1) (gdC tb_531 (gdC tb_532 (gdC tb_533 (gdC tb_14 (gdC tb_534 gdB))))) ⟨ok_X9_word, ⟨Nat.le_of_ble_eq_true rfl, Nat.le_of_ble_eq_true rfl⟩, rfl, rfl⟩ (PreV.ofL I) rfl hl.1 rfl (Nat.le_of_ble_eq_true rfl) dL_first_168 ⟨Nat.zero_le _, Nat.zero_le _⟩) (fun _ _ q_ => f7_word q_) (fun r57 S58 H locs q59 I => ?_)
            have hA := AR_fr (f7_word q59) hA
            obtain ⟨e_, es_⟩ := wrd_m hI q59
            rw [es_] at I hA
            subst e_
            try clear q59
            refine lv_aload_n X.1 X.2.1 dL_first_171 rfl (lv_at hl 2 rfl) ?_
            refine ri_const X (v := 0) dL_first_172 ?_
            refine aL_lw X I (v := (V 0)) (hA.2.2.1 0) (by omega) dL_first_173 ?_
            refine rj_ne (tgt := 181) X (by omega) (by omega) dL_first_174 (by decide) (fun c60 => by exfalso; omega) (fun c60 => ?_)
            refine ri_const X (v := 1) dL_first_177 ?_
            refine lv_goto (tgt := 182) X.1 X.2.1 dL_first_178 (by decide) ?_
            refine lv_istore (lv' := [(4, .int (iI 1)), (0, .ref (G.2.2 0)), (1, .int (iI n)), (2, .ref (G.2.2 59)), (3, .int (iI r1)), (5, .int (iI ((n_ : Nat) : Int)))]) X.1 X.2.1 dL_first_182 hl (by decide) rfl (fun ls hl => ?_)
            refine ri_const X (v := 0) dL_first_184 ?_
            refine lv_istore (lv' := [(5, .int (iI 0)), (4, .int (iI 1)), (0, .ref (G.2.2 0)), (1, .int (iI n)), (2, .ref (G.2.2 59)), (3, .int (iI r1))]) X.1 X.2.1 dL_first_185 hl (by decide) rfl (fun ls hl => ?_)
            have lp_187 : ∀ (fu_ : Nat) (k_ : Nat) (U2 : St), 9 - k_ < fu_ → ∀ (hk : (k_ : Int) ≤ V 0) (hA : AR T Y V HD U2) (hI : LI T Y V PK B AG TK 0 (h + 8) U2) (H : Heap) (locs : List Loc), In (KL A G) s s.heap H locs U2 → ∀ ls : Array Slot, lv_has ls 6 [(0, .ref (G.2.2 0)), (1, .int (iI n)), (2, .ref (G.2.2 59)), (3, .int (iI r1)), (4, .int (iI 1)), (5, .int (iI ((k_ : Nat) : Int)))] → W p l e rm_L_first s m args below meth c H locs 0 0 (MQ below (QI (KL A G) (po_L_first T Y V HD PK B AG TK h)) args s 0 0 A) (F0 m 187 ls []) := by
              intro fu_
              induction fu_ with
              | zero => intro k_ U2 hm; exact absurd hm (by omega)
              | succ fu_ ih_187 =>
                intro k_ U2 hm_187 hk hA hI H locs I ls hl
                refine lv_iload X.1 X.2.1 dL_first_187 (lv_at hl 5 rfl) ?_
                refine lv_aload_n X.1 X.2.1 dL_first_189 rfl (lv_at hl 2 rfl) ?_
                refine ri_const X (v := 0) dL_first_190 ?_
                refine aL_lw X I (v := (V 0)) (hA.2.2.1 0) (by omega) dL_first_191 ?_
                refine rj_ge (tgt := 228) X (by omega) (by omega) dL_first_192 (by decide) (fun c61 => ?_) (fun c61 => ?_)
                · skip
                  refine lv_iload X.1 X.2.1 dL_first_228 (lv_at hl 4 rfl) ?_
                  exact rt_i X hr hlk I (by rfl) (⟨rfl, hI, hA⟩) dL_first_230
                · skip
                  refine lv_iload X.1 X.2.1 dL_first_195 (lv_at hl 4 rfl) ?_
                  refine rz_eq (tgt := 228) X (by omega) dL_first_197 (by decide) (fun c62 => by exfalso; omega) (fun c62 => ?_)
                  have hl_ := hV.2 k_ (by omega) (by omega)
                  unfold ltr at hl_
                  refine lv_aload_n X.1 X.2.1 dL_first_200 rfl (lv_at hl 0 rfl) ?_
                  refine lv_iload X.1 X.2.1 dL_first_201 (lv_at hl 5 rfl) ?_
                  refine clx_i I (runV (As := [.int (iI ((k_ : Nat) : Int))]) (rest := []) X (k_X9_word l G U2 ((k_ : Nat) : Int) (by omega) 600 hI.1) (gdC tb_531 (gdC tb_532 (gdC tb_533 (gdC tb_14 (gdC tb_534 gdB))))) ⟨ok_X9_word, ⟨Nat.le_of_ble_eq_true rfl, Nat.le_of_ble_eq_true rfl⟩, rfl, rfl⟩ (PreV.ofL I) rfl hl.1 rfl (Nat.le_of_ble_eq_true rfl) dL_first_203 ⟨Nat.zero_le _, Nat.zero_le _⟩) (fun _ _ q_ => f7_word q_) (fun r63 S64 H locs q65 I => ?_)
                  have hA := AR_fr (f7_word q65) hA
                  obtain ⟨e_, es_⟩ := wrd_k hI (by omega) q65
                  rw [es_] at I hA
                  subst e_
                  try clear q65
                  refine lv_aload_n X.1 X.2.1 dL_first_206 rfl (lv_at hl 2 rfl) ?_
                  refine ri_const X (v := 1) dL_first_207 ?_
                  refine lv_iload X.1 X.2.1 dL_first_208 (lv_at hl 5 rfl) ?_
                  refine ri_add X (v := (1 + ((k_ : Nat) : Int))) rfl dL_first_210 ?_
                  refine aL_lw X I (v := (V (1 + ((k_ : Nat) : Int)))) (hA.2.2.1 (1 + ((k_ : Nat) : Int))) (by omega) dL_first_211 ?_
                  refine rj_ne (tgt := 219) X (by omega) (by omega) dL_first_212 (by decide) (fun c66 => by exfalso; omega) (fun c66 => ?_)
                  refine ri_const X (v := 1) dL_first_215 ?_
                  refine lv_goto (tgt := 220) X.1 X.2.1 dL_first_216 (by decide) ?_
                  refine lv_istore (lv' := [(4, .int (iI 1)), (0, .ref (G.2.2 0)), (1, .int (iI n)), (2, .ref (G.2.2 59)), (3, .int (iI r1)), (5, .int (iI ((k_ : Nat) : Int)))]) X.1 X.2.1 dL_first_220 hl (by decide) rfl (fun ls hl => ?_)
                  refine ri_iinc X (k := 5) (v := (((k_ : Nat) : Int) + 1)) (lv' := [(5, .int (iI (((k_ : Nat) : Int) + 1))), (4, .int (iI 1)), (0, .ref (G.2.2 0)), (1, .int (iI n)), (2, .ref (G.2.2 59)), (3, .int (iI r1))]) rfl dL_first_222 hl rfl (by decide) rfl (fun ls hl => ?_)
                  refine lv_goto (tgt := 187) X.1 X.2.1 dL_first_225 (by decide) ?_
                  have hl : lv_has ls 6 [(5, .int (iI (((k_ + 1) : Nat) : Int))), (4, .int (iI 1)), (0, .ref (G.2.2 0)), (1, .int (iI n)), (2, .ref (G.2.2 59)), (3, .int (iI r1))] := by
                    have e_ : (((k_ : Nat) : Int) + 1) = (((k_ + 1) : Nat) : Int) := (by omega)
                    rw [← e_]; exact hl
                  exact ih_187 (k_ + 1) U2 (by omega) (by omega) (hA) (hI) _ _ I ls (lv_sub hl [2, 3, 4, 5, 1, 0] rfl)
            have hl : lv_has ls 6 [(5, .int (iI ((0 : Nat) : Int))), (4, .int (iI 1)), (0, .ref (G.2.2 0)), (1, .int (iI n)), (2, .ref (G.2.2 59)), (3, .int (iI r1))] := by
              have e_ : 0 = ((0 : Nat) : Int) := rfl
              rw [← e_]; exact hl
            exact lp_187 (10) 0 S50 (by omega) (by omega) (hA) (hI) _ _ I ls (lv_sub hl [2, 3, 4, 5, 1, 0] rfl)
        · skip
          refine lv_iload X.1 X.2.1 dL_first_66 (lv_at hl 4 rfl) ?_
          refine rz_eq (tgt := 99) X (by omega) dL_first_68 (by decide) (fun c67 => by exfalso; omega) (fun c67 => ?_)
          refine lv_aload_n X.1 X.2.1 dL_first_71 rfl (lv_at hl 0 rfl) ?_
          refine clx_i I (runV (As := []) (rest := []) X (k_X9_untype l G U   600 hI.1) (gdC tb_437 (gdC tb_438 (gdC tb_439 (gdC tb_14 (gdC tb_440 gdB))))) ⟨ok_X9_untype, ⟨Nat.le_of_ble_eq_true rfl, Nat.le_of_ble_eq_true rfl⟩, rfl, rfl⟩ (PreV.ofL I) rfl hl.1 rfl (Nat.le_of_ble_eq_true rfl) dL_first_72 ⟨Nat.zero_le _, Nat.zero_le _⟩) (fun _ _ q_ => f7_untype q_) (fun r68 S69 H locs q70 I => ?_)
          have hA := AR_fr (f7_untype q70) hA
          have hd0 := VD_h V n_
          have hd1 := VD_h V (n_ + 1)
          obtain ⟨e_, hVD2, hI, hf_⟩ := op_untype (V2 := VD V (n_ + 1)) hVD hI (by omega) ⟨by omega, fun k_ a_ b_ => by rw [VD_k V (n_ + 1) (by omega), VD_k V n_ (by omega)]⟩ q70
          have hw := KW_fr (fun c_ i_ z_ => hf_ c_ i_ (by omega) (by omega)) hw
          rw [hd0, VD_k V n_ (by omega)] at e_
          subst e_
          have hl_ := hV.2 (V 0 - n_ - 1) (by omega) (by omega)
          rw [show 1 + (V 0 - n_ - 1) = V 0 - n_ by omega] at hl_
          unfold ltr at hl_
          try clear q70
          refine lv_aload_n X.1 X.2.1 dL_first_75 rfl (lv_at hl 2 rfl) ?_
          refine lv_aload_n X.1 X.2.1 dL_first_76 rfl (lv_at hl 2 rfl) ?_
          refine ri_const X (v := 0) dL_first_77 ?_
          refine aL_lw X I (v := (V 0)) (hA.2.2.1 0) (by omega) dL_first_78 ?_
          refine lv_iload X.1 X.2.1 dL_first_79 (lv_at hl 5 rfl) ?_
          refine ri_sub X (v := ((V 0) - ((n_ : Nat) : Int))) rfl dL_first_81 ?_
          refine aL_lw X I (v := (V ((V 0) - ((n_ : Nat) : Int)))) (hA.2.2.1 ((V 0) - ((n_ : Nat) : Int))) (by omega) dL_first_82 ?_
          refine rj_ne (tgt := 90) X (by omega) (by omega) dL_first_83 (by decide) (fun c71 => by exfalso; omega) (fun c71 => ?_)
          refine ri_const X (v := 1) dL_first_86 ?_
          refine lv_goto (tgt := 91) X.1 X.2.1 dL_first_87 (by decide) ?_
          refine lv_istore (lv' := [(4, .int (iI 1)), (0, .ref (G.2.2 0)), (1, .int (iI n)), (2, .ref (G.2.2 59)), (3, .int (iI r1)), (5, .int (iI ((n_ : Nat) : Int)))]) X.1 X.2.1 dL_first_91 hl (by decide) rfl (fun ls hl => ?_)
          refine ri_iinc X (k := 5) (v := (((n_ : Nat) : Int) + 1)) (lv' := [(5, .int (iI (((n_ : Nat) : Int) + 1))), (4, .int (iI 1)), (0, .ref (G.2.2 0)), (1, .int (iI n)), (2, .ref (G.2.2 59)), (3, .int (iI r1))]) rfl dL_first_93 hl rfl (by decide) rfl (fun ls hl => ?_)
          refine lv_goto (tgt := 58) X.1 X.2.1 dL_first_96 (by decide) ?_
          have hl : lv_has ls 6 [(5, .int (iI (((n_ + 1) : Nat) : Int))), (4, .int (iI 1)), (0, .ref (G.2.2 0)), (1, .int (iI n)), (2, .ref (G.2.2 59)), (3, .int (iI r1))] := by
            have e_ : (((n_ : Nat) : Int) + 1) = (((n_ + 1) : Nat) : Int) := (by omega)
            rw [← e_]; exact hl
          exact ih_58 (n_ + 1) S69 (by omega) (by omega) (hA) (hVD2) (hI) (hw) _ _ I ls (lv_sub hl [2, 3, 4, 5, 1, 0] rfl)
    have hl : lv_has ls 6 [(5, .int (iI ((0 : Nat) : Int))), (4, .int (iI 1)), (3, .int (iI r1)), (0, .ref (G.2.2 0)), (1, .int (iI n)), (2, .ref (G.2.2 59))] := by
      have e_ : 0 = ((0 : Nat) : Int) := rfl
      rw [← e_]; exact hl
    exact lp_58 (10) 0 S9 (by omega) (by omega) (hA) ((by rw [VD_0]; exact hV)) ((by rw [VD_0]; exact hI)) (hw) _ _ I ls (lv_sub hl [3, 4, 5, 2, 1, 0] rfl)
  · skip
    refine ri_const X (v := 1) dL_first_12 ?_
    exact rt_i X hr hlk I (by rfl) (⟨rfl, LI_h hI (by omega), hA⟩) dL_first_13
