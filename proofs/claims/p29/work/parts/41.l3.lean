/-! the law's types and lays -/
theorem ok_L_types : yL_types.cls ≠ "java/lang/invoke/MethodHandle" ∧ yL_types.cls ≠ "java/lang/invoke/VarHandle" ∧ (parseMethodDescriptor yL_types.desc).map (fun d => d.parameters.length) = some 4 := ⟨by decide +kernel, by decide +kernel, by decide +kernel⟩
abbrev po_L_types (T Y V W_ HD PK : Int → Int) (B AG TK KP h : Int) : Int → St → Prop := fun r S1 => r = 1 ∧ LI T Y V PK B AG TK KP h S1 ∧ AR T Y (uf W_ 0 0) HD S1
abbrev rm_L_types : Room := ({ frames := 2, cells := 0, slots := 0, locals := 40 } : Room)
set_option maxRecDepth 100000 in
set_option maxHeartbeats 4000000 in
theorem k_L_types (l : Launch) (A : Nat → Prop) (G : Ge) (S : St) (T Y V W_ HD PK : Int → Int) (B AG TK KP h : Int) (hA : AR T Y W_ HD S) (hT : TOK T Y) (hV : VOK V) (hv0 : V 0 = 0) (hI : LI T Y V PK B AG TK KP h S) (hh : h ≤ 4800) : Ki (KL A G) l yL_types cL_types 7 .boolean rm_L_types [.ref (G.2.2 0), .ref (G.2.2 59), .int (iI 0), .int (iI 0)] S (po_L_types T Y V W_ HD PK B AG TK KP h) := by
  refine K_start (own := "NameSeekerLaw") (by decide +kernel) rfl (Nat.le_of_ble_eq_true rfl) ?_
  intro p e s m args below meth c X hr hlk I ls hl
  have hl : lv_has ls 7 [(0, .ref (G.2.2 0)), (1, .ref (G.2.2 59)), (2, .int (iI 0)), (3, .int (iI 0))] := hl
  refine ri_const X (v := 1) dL_types_0 ?_
  refine lv_istore (lv' := [(4, .int (iI 1)), (0, .ref (G.2.2 0)), (1, .ref (G.2.2 59)), (2, .int (iI 0)), (3, .int (iI 0))]) X.1 X.2.1 dL_types_1 hl (by decide) rfl (fun ls hl => ?_)
  refine ri_const X (v := 0) dL_types_3 ?_
  refine lv_istore (lv' := [(5, .int (iI 0)), (4, .int (iI 1)), (0, .ref (G.2.2 0)), (1, .ref (G.2.2 59)), (2, .int (iI 0)), (3, .int (iI 0))]) X.1 X.2.1 dL_types_4 hl (by decide) rfl (fun ls hl => ?_)
  refine lv_iload X.1 X.2.1 dL_types_6 (lv_at hl 0 rfl) ?_
  refine ri_push X (v := 7) (by decide) dL_types_8 ?_
  refine rj_ge (tgt := 61) X (by omega) (by omega) dL_types_10 (by decide) (fun c1 => by exfalso; omega) (fun c1 => ?_)
  refine lv_aload_n X.1 X.2.1 dL_types_13 rfl (lv_at hl 2 rfl) ?_
  refine ri_const X (v := (-1)) dL_types_14 ?_
  refine clx_i I (runV (As := [.int (iI (-1))]) (rest := []) X (k_X9_word l G S (-1) (by omega) 600 hI.1) (gdC tb_531 (gdC tb_532 (gdC tb_533 (gdC tb_14 (gdC tb_534 gdB))))) ⟨ok_X9_word, ⟨Nat.le_of_ble_eq_true rfl, Nat.le_of_ble_eq_true rfl⟩, rfl, rfl⟩ (PreV.ofL I) rfl hl.1 rfl (Nat.le_of_ble_eq_true rfl) dL_types_15 ⟨Nat.zero_le _, Nat.zero_le _⟩) (fun _ _ q_ => f7_word q_) (fun r2 S3 H locs q4 I => ?_)
  have hA := AR_fr (f7_word q4) hA
  obtain ⟨e_, es_⟩ := wrd_m hI q4
  rw [hv0] at e_
  rw [es_] at I hA
  subst e_
  try clear q4
  refine rz_le (tgt := 61) X (by omega) dL_types_18 (by decide) (fun c5 => ?_) (fun c5 => by exfalso; omega)
  refine lv_iload X.1 X.2.1 dL_types_61 (lv_at hl 1 rfl) ?_
  refine rz_eq (tgt := 87) X (by omega) dL_types_63 (by decide) (fun c6 => by exfalso; omega) (fun c6 => ?_)
  refine lv_aload_n X.1 X.2.1 dL_types_66 rfl (lv_at hl 2 rfl) ?_
  refine ri_const X (v := (-1)) dL_types_67 ?_
  refine clx_i I (runV (As := [.int (iI (-1))]) (rest := []) X (k_X9_word l G S (-1) (by omega) 600 hI.1) (gdC tb_531 (gdC tb_532 (gdC tb_533 (gdC tb_14 (gdC tb_534 gdB))))) ⟨ok_X9_word, ⟨Nat.le_of_ble_eq_true rfl, Nat.le_of_ble_eq_true rfl⟩, rfl, rfl⟩ (PreV.ofL I) rfl hl.1 rfl (Nat.le_of_ble_eq_true rfl) dL_types_68 ⟨Nat.zero_le _, Nat.zero_le _⟩) (fun _ _ q_ => f7_word q_) (fun r7 S8 H locs q9 I => ?_)
  have hA := AR_fr (f7_word q9) hA
  obtain ⟨e_, es_⟩ := wrd_m hI q9
  rw [hv0] at e_
  rw [es_] at I hA
  subst e_
  try clear q9
  refine rz_ne (tgt := 87) X (by omega) dL_types_71 (by decide) (fun c10 => by exfalso; omega) (fun c10 => ?_)
  refine lv_aload_n X.1 X.2.1 dL_types_74 rfl (lv_at hl 2 rfl) ?_
  refine clx_i I (runV (As := []) (rest := []) X (k_X9_untype l G S   600 hI.1) (gdC tb_437 (gdC tb_438 (gdC tb_439 (gdC tb_14 (gdC tb_440 gdB))))) ⟨ok_X9_untype, ⟨Nat.le_of_ble_eq_true rfl, Nat.le_of_ble_eq_true rfl⟩, rfl, rfl⟩ (PreV.ofL I) rfl hl.1 rfl (Nat.le_of_ble_eq_true rfl) dL_types_75 ⟨Nat.zero_le _, Nat.zero_le _⟩) (fun _ _ q_ => f7_untype q_) (fun r11 S12 H locs q13 I => ?_)
  have hA := AR_fr (f7_untype q13) hA
  obtain ⟨e_, es_⟩ := op_untype0 hI hv0 q13
  rw [es_] at I hA
  subst e_
  try clear q13
  refine ri_push X (v := (-2)) (by decide) dL_types_78 ?_
  refine rj_ne (tgt := 87) X (by omega) (by omega) dL_types_80 (by decide) (fun c14 => by exfalso; omega) (fun c14 => ?_)
  refine ri_const X (v := 1) dL_types_83 ?_
  refine lv_goto (tgt := 88) X.1 X.2.1 dL_types_84 (by decide) ?_
  refine lv_istore (lv' := [(4, .int (iI 1)), (5, .int (iI 0)), (0, .ref (G.2.2 0)), (1, .ref (G.2.2 59)), (2, .int (iI 0)), (3, .int (iI 0))]) X.1 X.2.1 dL_types_88 hl (by decide) rfl (fun ls hl => ?_)
  refine lv_aload_n X.1 X.2.1 dL_types_90 rfl (lv_at hl 3 rfl) ?_
  refine ri_const X (v := 0) dL_types_91 ?_
  refine lv_iload_n X.1 X.2.1 dL_types_92 rfl (lv_at hl 4 rfl) ?_
  refine qL_lw X I (by omega) dL_types_93 (fun H locs I => ?_)
  obtain ⟨S15, hS15⟩ : ∃ u_ : St, u_ = (ua S.1 72 0 0, S.2) := ⟨_, rfl⟩
  rw [← hS15] at I
  have hA := AR_lw (z := 0) (v := 0) hA hS15
  have hI := LI_ar (by decide) (by omega) hI hS15
  refine ri_const X (v := 0) dL_types_94 ?_
  refine lv_istore (lv' := [(5, .int (iI 0)), (4, .int (iI 1)), (0, .ref (G.2.2 0)), (1, .ref (G.2.2 59)), (2, .int (iI 0)), (3, .int (iI 0))]) X.1 X.2.1 dL_types_95 hl (by decide) rfl (fun ls hl => ?_)
  refine lv_iload X.1 X.2.1 dL_types_97 (lv_at hl 0 rfl) ?_
  refine lv_iload_n X.1 X.2.1 dL_types_99 rfl (lv_at hl 4 rfl) ?_
  refine rj_ge (tgt := 171) X (by omega) (by omega) dL_types_100 (by decide) (fun c16 => ?_) (fun c16 => by exfalso; omega)
  refine lv_iload X.1 X.2.1 dL_types_171 (lv_at hl 1 rfl) ?_
  refine rz_eq (tgt := 207) X (by omega) dL_types_173 (by decide) (fun c17 => by exfalso; omega) (fun c17 => ?_)
  refine lv_aload_n X.1 X.2.1 dL_types_176 rfl (lv_at hl 2 rfl) ?_
  refine lv_iload_n X.1 X.2.1 dL_types_177 rfl (lv_at hl 4 rfl) ?_
  refine clx_i I (runV (As := [.int (iI 0)]) (rest := []) X (k_X9_word l G S15 0 (by omega) 600 hI.1) (gdC tb_531 (gdC tb_532 (gdC tb_533 (gdC tb_14 (gdC tb_534 gdB))))) ⟨ok_X9_word, ⟨Nat.le_of_ble_eq_true rfl, Nat.le_of_ble_eq_true rfl⟩, rfl, rfl⟩ (PreV.ofL I) rfl hl.1 rfl (Nat.le_of_ble_eq_true rfl) dL_types_178 ⟨Nat.zero_le _, Nat.zero_le _⟩) (fun _ _ q_ => f7_word q_) (fun r18 S19 H locs q20 I => ?_)
  have hA := AR_fr (f7_word q20) hA
  obtain ⟨e_, es_⟩ := wrd_e hI ⟨by omega, by omega⟩ q20
  rw [es_] at I hA
  subst e_
  try clear q20
  refine ri_push X (v := (-4)) (by decide) dL_types_181 ?_
  refine rj_ne (tgt := 207) X (by omega) (by omega) dL_types_183 (by decide) (fun c21 => by exfalso; omega) (fun c21 => ?_)
  refine lv_iload_n X.1 X.2.1 dL_types_186 rfl (lv_at hl 4 rfl) ?_
  refine ri_push X (v := 6) (by decide) dL_types_187 ?_
  refine rj_lt (tgt := 203) X (by omega) (by omega) dL_types_189 (by decide) (fun c22 => ?_) (fun c22 => by exfalso; omega)
  refine ri_const X (v := 1) dL_types_203 ?_
  refine lv_goto (tgt := 208) X.1 X.2.1 dL_types_204 (by decide) ?_
  exact rt_i X hr hlk I (by rfl) (⟨rfl, hI, hA⟩) dL_types_208

theorem ok_L_lays : yL_lays.cls ≠ "java/lang/invoke/MethodHandle" ∧ yL_lays.cls ≠ "java/lang/invoke/VarHandle" ∧ (parseMethodDescriptor yL_lays.desc).map (fun d => d.parameters.length) = some 3 := ⟨by decide +kernel, by decide +kernel, by decide +kernel⟩
abbrev po_L_lays (T Y V HD : Int → Int) (B AG TK h sm : Int) : Int → St → Prop := fun r S1 => r = 1 ∧ LI T Y (fun _ => 0) (fun _ => 0) B (AG + 1) TK 0 h S1 ∧ AR T Y V HD S1 ∧ S1.1 61 0 + S1.1 62 0 = sm
abbrev rm_L_lays : Room := ({ frames := 7, cells := 0, slots := 0, locals := 152 } : Room)
set_option maxRecDepth 100000 in
set_option maxHeartbeats 4000000 in
theorem k_L_lays (l : Launch) (A : Nat → Prop) (G : Ge) (S : St) (T Y V HD : Int → Int) (B AG TK h sm : Int) (hA : AR T Y V HD S) (hT : TOK T Y) (hI : LB B AG TK h sm S) (hb : AG + 1 ≤ 600 ∧ B ≤ 4000) : Ki (KL A G) l yL_lays cL_lays 6 .boolean rm_L_lays [.ref (G.2.2 0), .ref (G.2.2 57), .ref (G.2.2 58)] S (po_L_lays T Y V HD B AG TK h sm) := by
  refine K_start (own := "NameSeekerLaw") (by decide +kernel) rfl (Nat.le_of_ble_eq_true rfl) ?_
  intro p e s m args below meth c X hr hlk I ls hl
  have hl : lv_has ls 6 [(0, .ref (G.2.2 0)), (1, .ref (G.2.2 57)), (2, .ref (G.2.2 58))] := hl
  obtain ⟨g, hg⟩ : ∃ g_ : Int → Int, SP T Y g_ := ⟨_, SP_txf hT⟩
  have hT0 := hT.1
  have hTw := hT.2.2
  have hE := oF_r hT (T 0).toNat (by omega)
  obtain ⟨hgn, d1_, d2_, d3_, d4_, d5_, d6_, d7_⟩ := id hg
  refine lv_aload_n X.1 X.2.1 dL_lays_0 rfl (lv_at hl 0 rfl) ?_
  refine clx_i I (runV (As := []) (rest := []) X (k_X9_wipe l G S   600 hI.1) (gdC tb_497 (gdC tb_498 (gdC tb_499 (gdC tb_14 (gdC tb_500 gdB))))) ⟨ok_X9_wipe, ⟨Nat.le_of_ble_eq_true rfl, Nat.le_of_ble_eq_true rfl⟩, rfl, rfl⟩ (PreV.ofL I) rfl hl.1 rfl (Nat.le_of_ble_eq_true rfl) dL_lays_1 ⟨Nat.zero_le _, Nat.zero_le _⟩) (fun _ _ q_ => f7_wipe q_) (fun r1 S2 H locs q3 I => ?_)
  have hA := AR_fr (f7_wipe q3) hA
  obtain ⟨e_, hI, hw⟩ := op_wipe (g := g) hI q3
  try clear q3
  refine rz_lt (tgt := 11) X (by omega) dL_lays_4 (by decide) (fun c4 => by exfalso; omega) (fun c4 => ?_)
  refine ri_const X (v := 1) dL_lays_7 ?_
  refine lv_goto (tgt := 12) X.1 X.2.1 dL_lays_8 (by decide) ?_
  refine lv_istore_n (lv' := [(3, .int (iI 1)), (0, .ref (G.2.2 0)), (1, .ref (G.2.2 57)), (2, .ref (G.2.2 58))]) X.1 X.2.1 dL_lays_12 rfl hl (by decide) rfl (fun ls hl => ?_)
  refine ri_const X (v := 0) dL_lays_13 ?_
  refine lv_istore (lv' := [(4, .int (iI 0)), (3, .int (iI 1)), (0, .ref (G.2.2 0)), (1, .ref (G.2.2 57)), (2, .ref (G.2.2 58))]) X.1 X.2.1 dL_lays_14 hl (by decide) rfl (fun ls hl => ?_)
  have lp_16 : ∀ (fu_ : Nat) (n_ : Nat) (U : St), 9 - n_ < fu_ → ∀ (hn : (n_ : Int) ≤ T 0) (hA : AR T Y V HD U) (hI : LB B AG TK h sm U) (hw : WR g (oF T n_) U) (H : Heap) (locs : List Loc), In (KL A G) s s.heap H locs U → ∀ ls : Array Slot, lv_has ls 6 [(0, .ref (G.2.2 0)), (1, .ref (G.2.2 57)), (2, .ref (G.2.2 58)), (3, .int (iI 1)), (4, .int (iI ((n_ : Nat) : Int)))] → W p l e rm_L_lays s m args below meth c H locs 0 0 (MQ below (QI (KL A G) (po_L_lays T Y V HD B AG TK h sm)) args s 0 0 A) (F0 m 16 ls []) := by
    intro fu_
    induction fu_ with
    | zero => intro n_ U hm; exact absurd hm (by omega)
    | succ fu_ ih_16 =>
      intro n_ U hm_16 hn hA hI hw H locs I ls hl
      refine lv_iload X.1 X.2.1 dL_lays_16 (lv_at hl 4 rfl) ?_
      refine lv_aload_n X.1 X.2.1 dL_lays_18 rfl (lv_at hl 1 rfl) ?_
      refine ri_const X (v := 0) dL_lays_19 ?_
      refine aL_lt X I (v := (T 0)) (hA.1 0) (by omega) dL_lays_20 ?_
      refine rj_ge (tgt := 131) X (by omega) (by omega) dL_lays_21 (by decide) (fun c5 => ?_) (fun c5 => ?_)
      · skip
        refine lv_iload_n X.1 X.2.1 dL_lays_131 rfl (lv_at hl 3 rfl) ?_
        refine rz_eq (tgt := 236) X (by omega) dL_lays_132 (by decide) (fun c6 => by exfalso; omega) (fun c6 => ?_)
        have en_ : n_ = (T 0).toNat := by omega
        rw [en_] at hw
        refine lv_aload_n X.1 X.2.1 dL_lays_135 rfl (lv_at hl 0 rfl) ?_
        refine ri_push X (v := 119) (by decide) dL_lays_136 ?_
        refine cl_i I (runS (As := [.ref (G.2.2 0), .int (iI 119)]) (rest := []) X (k_L_writes l A G U T Y V HD g B AG TK h sm (oF T (T 0).toNat) (oF T (T 0).toNat + 1) 119 hA hI hw (by omega) (by omega) (by omega) (by first | exact d1_ | (rw [← d1_]; congr 1; omega))) (gdC tb_503 gdB) tb_501 tb_502 tb_13 ⟨ok_L_writes, ⟨Nat.le_of_ble_eq_true rfl, Nat.le_of_ble_eq_true rfl⟩, rfl, rfl⟩ (PreS.of I) rfl hl.1 rfl (Nat.le_of_ble_eq_true rfl) dL_lays_138 ⟨Nat.zero_le _, Nat.zero_le _⟩) (fun r7 S8 H locs q9 I => ?_)
        obtain ⟨e_, hI, hw, hA⟩ := q9
        subst e_
        refine rz_eq (tgt := 236) X (by omega) dL_lays_141 (by decide) (fun c10 => by exfalso; omega) (fun c10 => ?_)
        refine lv_aload_n X.1 X.2.1 dL_lays_144 rfl (lv_at hl 0 rfl) ?_
        refine ri_push X (v := 48) (by decide) dL_lays_145 ?_
        refine lv_aload_n X.1 X.2.1 dL_lays_147 rfl (lv_at hl 1 rfl) ?_
        refine ri_push X (v := 17) (by decide) dL_lays_148 ?_
        refine aL_lt X I (v := (T 17)) (hA.1 17) (by omega) dL_lays_150 ?_
        refine ri_add X (v := (48 + (T 17))) rfl dL_lays_151 ?_
        refine cl_i I (runS (As := [.ref (G.2.2 0), .int (iI (48 + (T 17)))]) (rest := []) X (k_L_writes l A G S8 T Y V HD g B AG TK h sm (oF T (T 0).toNat + 1) (oF T (T 0).toNat + 2) (48 + (T 17)) hA hI hw (by omega) (by omega) (by omega) (by first | exact d2_ | (rw [← d2_]; congr 1; omega))) (gdC tb_503 gdB) tb_501 tb_502 tb_13 ⟨ok_L_writes, ⟨Nat.le_of_ble_eq_true rfl, Nat.le_of_ble_eq_true rfl⟩, rfl, rfl⟩ (PreS.of I) rfl hl.1 rfl (Nat.le_of_ble_eq_true rfl) dL_lays_152 ⟨Nat.zero_le _, Nat.zero_le _⟩) (fun r11 S12 H locs q13 I => ?_)
        obtain ⟨e_, hI, hw, hA⟩ := q13
        subst e_
        refine rz_eq (tgt := 236) X (by omega) dL_lays_155 (by decide) (fun c14 => by exfalso; omega) (fun c14 => ?_)
        refine lv_aload_n X.1 X.2.1 dL_lays_158 rfl (lv_at hl 0 rfl) ?_
        refine ri_push X (v := 44) (by decide) dL_lays_159 ?_
        refine cl_i I (runS (As := [.ref (G.2.2 0), .int (iI 44)]) (rest := []) X (k_L_writes l A G S12 T Y V HD g B AG TK h sm (oF T (T 0).toNat + 2) (oF T (T 0).toNat + 3) 44 hA hI hw (by omega) (by omega) (by omega) (by first | exact d3_ | (rw [← d3_]; congr 1; omega))) (gdC tb_503 gdB) tb_501 tb_502 tb_13 ⟨ok_L_writes, ⟨Nat.le_of_ble_eq_true rfl, Nat.le_of_ble_eq_true rfl⟩, rfl, rfl⟩ (PreS.of I) rfl hl.1 rfl (Nat.le_of_ble_eq_true rfl) dL_lays_161 ⟨Nat.zero_le _, Nat.zero_le _⟩) (fun r15 S16 H locs q17 I => ?_)
        obtain ⟨e_, hI, hw, hA⟩ := q17
        subst e_
        refine rz_eq (tgt := 236) X (by omega) dL_lays_164 (by decide) (fun c18 => by exfalso; omega) (fun c18 => ?_)
        refine lv_aload_n X.1 X.2.1 dL_lays_167 rfl (lv_at hl 0 rfl) ?_
        refine ri_push X (v := 48) (by decide) dL_lays_168 ?_
        refine lv_aload_n X.1 X.2.1 dL_lays_170 rfl (lv_at hl 1 rfl) ?_
        refine ri_push X (v := 18) (by decide) dL_lays_171 ?_
        refine aL_lt X I (v := (T 18)) (hA.1 18) (by omega) dL_lays_173 ?_
        refine ri_add X (v := (48 + (T 18))) rfl dL_lays_174 ?_
        refine cl_i I (runS (As := [.ref (G.2.2 0), .int (iI (48 + (T 18)))]) (rest := []) X (k_L_writes l A G S16 T Y V HD g B AG TK h sm (oF T (T 0).toNat + 3) (oF T (T 0).toNat + 4) (48 + (T 18)) hA hI hw (by omega) (by omega) (by omega) (by first | exact d4_ | (rw [← d4_]; congr 1; omega))) (gdC tb_503 gdB) tb_501 tb_502 tb_13 ⟨ok_L_writes, ⟨Nat.le_of_ble_eq_true rfl, Nat.le_of_ble_eq_true rfl⟩, rfl, rfl⟩ (PreS.of I) rfl hl.1 rfl (Nat.le_of_ble_eq_true rfl) dL_lays_175 ⟨Nat.zero_le _, Nat.zero_le _⟩) (fun r19 S20 H locs q21 I => ?_)
        obtain ⟨e_, hI, hw, hA⟩ := q21
        subst e_
        refine rz_eq (tgt := 236) X (by omega) dL_lays_178 (by decide) (fun c22 => by exfalso; omega) (fun c22 => ?_)
        refine lv_aload_n X.1 X.2.1 dL_lays_181 rfl (lv_at hl 0 rfl) ?_
        refine ri_push X (v := 44) (by decide) dL_lays_182 ?_
        refine cl_i I (runS (As := [.ref (G.2.2 0), .int (iI 44)]) (rest := []) X (k_L_writes l A G S20 T Y V HD g B AG TK h sm (oF T (T 0).toNat + 4) (oF T (T 0).toNat + 5) 44 hA hI hw (by omega) (by omega) (by omega) (by first | exact d5_ | (rw [← d5_]; congr 1; omega))) (gdC tb_503 gdB) tb_501 tb_502 tb_13 ⟨ok_L_writes, ⟨Nat.le_of_ble_eq_true rfl, Nat.le_of_ble_eq_true rfl⟩, rfl, rfl⟩ (PreS.of I) rfl hl.1 rfl (Nat.le_of_ble_eq_true rfl) dL_lays_184 ⟨Nat.zero_le _, Nat.zero_le _⟩) (fun r23 S24 H locs q25 I => ?_)
        obtain ⟨e_, hI, hw, hA⟩ := q25
        subst e_
        refine rz_eq (tgt := 236) X (by omega) dL_lays_187 (by decide) (fun c26 => by exfalso; omega) (fun c26 => ?_)
        refine lv_aload_n X.1 X.2.1 dL_lays_190 rfl (lv_at hl 0 rfl) ?_
        refine ri_push X (v := 48) (by decide) dL_lays_191 ?_
        refine lv_aload_n X.1 X.2.1 dL_lays_193 rfl (lv_at hl 1 rfl) ?_
        refine ri_push X (v := 19) (by decide) dL_lays_194 ?_
        refine aL_lt X I (v := (T 19)) (hA.1 19) (by omega) dL_lays_196 ?_
        refine ri_add X (v := (48 + (T 19))) rfl dL_lays_197 ?_
        refine cl_i I (runS (As := [.ref (G.2.2 0), .int (iI (48 + (T 19)))]) (rest := []) X (k_L_writes l A G S24 T Y V HD g B AG TK h sm (oF T (T 0).toNat + 5) (oF T (T 0).toNat + 6) (48 + (T 19)) hA hI hw (by omega) (by omega) (by omega) (by first | exact d6_ | (rw [← d6_]; congr 1; omega))) (gdC tb_503 gdB) tb_501 tb_502 tb_13 ⟨ok_L_writes, ⟨Nat.le_of_ble_eq_true rfl, Nat.le_of_ble_eq_true rfl⟩, rfl, rfl⟩ (PreS.of I) rfl hl.1 rfl (Nat.le_of_ble_eq_true rfl) dL_lays_198 ⟨Nat.zero_le _, Nat.zero_le _⟩) (fun r27 S28 H locs q29 I => ?_)
        obtain ⟨e_, hI, hw, hA⟩ := q29
        subst e_
        refine rz_eq (tgt := 236) X (by omega) dL_lays_201 (by decide) (fun c30 => by exfalso; omega) (fun c30 => ?_)
        refine lv_aload_n X.1 X.2.1 dL_lays_204 rfl (lv_at hl 0 rfl) ?_
        refine ri_push X (v := 59) (by decide) dL_lays_205 ?_
        refine cl_i I (runS (As := [.ref (G.2.2 0), .int (iI 59)]) (rest := []) X (k_L_writes l A G S28 T Y V HD g B AG TK h sm (oF T (T 0).toNat + 6) (oF T (T 0).toNat + 7) 59 hA hI hw (by omega) (by omega) (by omega) (by first | exact d7_ | (rw [← d7_]; congr 1; omega))) (gdC tb_503 gdB) tb_501 tb_502 tb_13 ⟨ok_L_writes, ⟨Nat.le_of_ble_eq_true rfl, Nat.le_of_ble_eq_true rfl⟩, rfl, rfl⟩ (PreS.of I) rfl hl.1 rfl (Nat.le_of_ble_eq_true rfl) dL_lays_207 ⟨Nat.zero_le _, Nat.zero_le _⟩) (fun r31 S32 H locs q33 I => ?_)
        obtain ⟨e_, hI, hw, hA⟩ := q33
        subst e_
        refine rz_eq (tgt := 236) X (by omega) dL_lays_210 (by decide) (fun c34 => by exfalso; omega) (fun c34 => ?_)
        refine lv_aload_n X.1 X.2.1 dL_lays_213 rfl (lv_at hl 0 rfl) ?_
        refine clx_i I (runV (As := []) (rest := []) X (k_X9_fault l G S32   600 hI.1) (gdC tb_511 (gdC tb_512 (gdC tb_513 (gdC tb_14 (gdC tb_514 gdB))))) ⟨ok_X9_fault, ⟨Nat.le_of_ble_eq_true rfl, Nat.le_of_ble_eq_true rfl⟩, rfl, rfl⟩ (PreV.ofL I) rfl hl.1 rfl (Nat.le_of_ble_eq_true rfl) dL_lays_214 ⟨Nat.zero_le _, Nat.zero_le _⟩) (fun _ _ q_ => f7_fault q_) (fun r35 S36 H locs q37 I => ?_)
        have hA := AR_fr (f7_fault q37) hA
        obtain ⟨e_, es_⟩ := op_fault hT hg hw q37
        rw [es_] at I hA
        subst e_
        try clear q37
        refine ri_push X (v := (-4)) (by decide) dL_lays_217 ?_
        refine rj_ne (tgt := 236) X (by omega) (by omega) dL_lays_219 (by decide) (fun c38 => by exfalso; omega) (fun c38 => ?_)
        refine lv_aload_n X.1 X.2.1 dL_lays_222 rfl (lv_at hl 0 rfl) ?_
        refine clx_i I (runV (As := []) (rest := []) X (k_X9_lay l G S32   600 hI.1) (gdC tb_520 (gdC tb_521 (gdC tb_522 (gdC tb_14 (gdC tb_523 gdB))))) ⟨ok_X9_lay, ⟨Nat.le_of_ble_eq_true rfl, Nat.le_of_ble_eq_true rfl⟩, rfl, rfl⟩ (PreV.ofL I) rfl hl.1 rfl (Nat.le_of_ble_eq_true rfl) dL_lays_223 ⟨Nat.zero_le _, Nat.zero_le _⟩) (fun _ _ q_ => f7_lay q_) (fun r39 S40 H locs q41 I => ?_)
        have hA := AR_fr (f7_lay q41) hA
        obtain ⟨e_, hI, hsm⟩ := op_lay (V0 := fun _ => 0) (PK0 := fun _ => 0) hT hg hw hI hb rfl (fun _ => rfl) q41
        subst e_
        try clear q41
        refine lv_aload_n X.1 X.2.1 dL_lays_226 rfl (lv_at hl 1 rfl) ?_
        refine ri_const X (v := 0) dL_lays_227 ?_
        refine aL_lt X I (v := (T 0)) (hA.1 0) (by omega) dL_lays_228 ?_
        refine rj_ne (tgt := 236) X (by omega) (by omega) dL_lays_229 (by decide) (fun c42 => by exfalso; omega) (fun c42 => ?_)
        refine ri_const X (v := 1) dL_lays_232 ?_
        refine lv_goto (tgt := 237) X.1 X.2.1 dL_lays_233 (by decide) ?_
        exact rt_i X hr hlk I (by rfl) (⟨rfl, hI, hA, hsm⟩) dL_lays_237
      · skip
        refine lv_iload_n X.1 X.2.1 dL_lays_24 rfl (lv_at hl 3 rfl) ?_
        refine rz_eq (tgt := 131) X (by omega) dL_lays_25 (by decide) (fun c43 => by exfalso; omega) (fun c43 => ?_)
        obtain ⟨a1_, a2_, a3_, a4_, a5_⟩ := hgn n_ (by omega)
        have hz := nm_sz hT (i := (n_ : Int)) (by omega)
        have ho := oF_r hT n_ (by omega)
        have hm := oF_m hT (T 0).toNat (show n_ < (T 0).toNat by omega) (by omega)
        refine lv_aload_n X.1 X.2.1 dL_lays_28 rfl (lv_at hl 0 rfl) ?_
        refine ri_push X (v := 115) (by decide) dL_lays_29 ?_
        refine cl_i I (runS (As := [.ref (G.2.2 0), .int (iI 115)]) (rest := []) X (k_L_writes l A G U T Y V HD g B AG TK h sm (oF T n_) (oF T n_ + 1) 115 hA hI hw (by omega) (by omega) (by omega) (by first | exact a1_ | (rw [← a1_]; congr 1; omega))) (gdC tb_503 gdB) tb_501 tb_502 tb_13 ⟨ok_L_writes, ⟨Nat.le_of_ble_eq_true rfl, Nat.le_of_ble_eq_true rfl⟩, rfl, rfl⟩ (PreS.of I) rfl hl.1 rfl (Nat.le_of_ble_eq_true rfl) dL_lays_31 ⟨Nat.zero_le _, Nat.zero_le _⟩) (fun r44 S45 H locs q46 I => ?_)
        obtain ⟨e_, hI, hw, hA⟩ := q46
        subst e_
        refine rz_eq (tgt := 67) X (by omega) dL_lays_34 (by decide) (fun c47 => by exfalso; omega) (fun c47 => ?_)
        refine lv_aload_n X.1 X.2.1 dL_lays_37 rfl (lv_at hl 0 rfl) ?_
        refine ri_push X (v := 48) (by decide) dL_lays_38 ?_
        refine lv_aload_n X.1 X.2.1 dL_lays_40 rfl (lv_at hl 1 rfl) ?_
        refine ri_push X (v := 9) (by decide) dL_lays_41 ?_
        refine lv_iload X.1 X.2.1 dL_lays_43 (lv_at hl 4 rfl) ?_
        refine ri_add X (v := (9 + ((n_ : Nat) : Int))) rfl dL_lays_45 ?_
        refine aL_lt X I (v := (T (9 + ((n_ : Nat) : Int)))) (hA.1 (9 + ((n_ : Nat) : Int))) (by omega) dL_lays_46 ?_
        refine ri_add X (v := (48 + (T (9 + ((n_ : Nat) : Int))))) rfl dL_lays_47 ?_
        refine cl_i I (runS (As := [.ref (G.2.2 0), .int (iI (48 + (T (9 + ((n_ : Nat) : Int)))))]) (rest := []) X (k_L_writes l A G S45 T Y V HD g B AG TK h sm (oF T n_ + 1) (oF T n_ + 2) (48 + (T (9 + ((n_ : Nat) : Int)))) hA hI hw (by omega) (by omega) (by omega) (by first | exact a2_ | (rw [← a2_]; congr 1; omega))) (gdC tb_503 gdB) tb_501 tb_502 tb_13 ⟨ok_L_writes, ⟨Nat.le_of_ble_eq_true rfl, Nat.le_of_ble_eq_true rfl⟩, rfl, rfl⟩ (PreS.of I) rfl hl.1 rfl (Nat.le_of_ble_eq_true rfl) dL_lays_48 ⟨Nat.zero_le _, Nat.zero_le _⟩) (fun r48 S49 H locs q50 I => ?_)
        obtain ⟨e_, hI, hw, hA⟩ := q50
        subst e_
        refine rz_eq (tgt := 67) X (by omega) dL_lays_51 (by decide) (fun c51 => by exfalso; omega) (fun c51 => ?_)
        refine lv_aload_n X.1 X.2.1 dL_lays_54 rfl (lv_at hl 0 rfl) ?_
        refine ri_push X (v := 44) (by decide) dL_lays_55 ?_
        refine cl_i I (runS (As := [.ref (G.2.2 0), .int (iI 44)]) (rest := []) X (k_L_writes l A G S49 T Y V HD g B AG TK h sm (oF T n_ + 2) (oF T n_ + 3) 44 hA hI hw (by omega) (by omega) (by omega) (by first | exact a3_ | (rw [← a3_]; congr 1; omega))) (gdC tb_503 gdB) tb_501 tb_502 tb_13 ⟨ok_L_writes, ⟨Nat.le_of_ble_eq_true rfl, Nat.le_of_ble_eq_true rfl⟩, rfl, rfl⟩ (PreS.of I) rfl hl.1 rfl (Nat.le_of_ble_eq_true rfl) dL_lays_57 ⟨Nat.zero_le _, Nat.zero_le _⟩) (fun r52 S53 H locs q54 I => ?_)
        obtain ⟨e_, hI, hw, hA⟩ := q54
        subst e_
        refine rz_eq (tgt := 67) X (by omega) dL_lays_60 (by decide) (fun c55 => by exfalso; omega) (fun c55 => ?_)
        refine ri_const X (v := 1) dL_lays_63 ?_
        refine lv_goto (tgt := 68) X.1 X.2.1 dL_lays_64 (by decide) ?_
        refine lv_istore_n (lv' := [(3, .int (iI 1)), (0, .ref (G.2.2 0)), (1, .ref (G.2.2 57)), (2, .ref (G.2.2 58)), (4, .int (iI ((n_ : Nat) : Int)))]) X.1 X.2.1 dL_lays_68 rfl hl (by decide) rfl (fun ls hl => ?_)
        refine ri_const X (v := 0) dL_lays_69 ?_
        refine lv_istore (lv' := [(5, .int (iI 0)), (3, .int (iI 1)), (0, .ref (G.2.2 0)), (1, .ref (G.2.2 57)), (2, .ref (G.2.2 58)), (4, .int (iI ((n_ : Nat) : Int)))]) X.1 X.2.1 dL_lays_70 hl (by decide) rfl (fun ls hl => ?_)
        have lp_72 : ∀ (fu_ : Nat) (k_ : Nat) (U2 : St), 13 - k_ < fu_ → ∀ (hk : (k_ : Int) ≤ T (1 + (n_ : Int))) (hA : AR T Y V HD U2) (hI : LB B AG TK h sm U2) (hw : WR g (oF T n_ + 3 + (k_ : Int)) U2) (H : Heap) (locs : List Loc), In (KL A G) s s.heap H locs U2 → ∀ ls : Array Slot, lv_has ls 6 [(0, .ref (G.2.2 0)), (1, .ref (G.2.2 57)), (2, .ref (G.2.2 58)), (3, .int (iI 1)), (4, .int (iI ((n_ : Nat) : Int))), (5, .int (iI ((k_ : Nat) : Int)))] → W p l e rm_L_lays s m args below meth c H locs 0 0 (MQ below (QI (KL A G) (po_L_lays T Y V HD B AG TK h sm)) args s 0 0 A) (F0 m 72 ls []) := by
          intro fu_
          induction fu_ with
          | zero => intro k_ U2 hm; exact absurd hm (by omega)
          | succ fu_ ih_72 =>
            intro k_ U2 hm_72 hk hA hI hw H locs I ls hl
            refine lv_iload X.1 X.2.1 dL_lays_72 (lv_at hl 5 rfl) ?_
            refine lv_aload_n X.1 X.2.1 dL_lays_74 rfl (lv_at hl 1 rfl) ?_
            refine ri_const X (v := 1) dL_lays_75 ?_
            refine lv_iload X.1 X.2.1 dL_lays_76 (lv_at hl 4 rfl) ?_
            refine ri_add X (v := (1 + ((n_ : Nat) : Int))) rfl dL_lays_78 ?_
            refine aL_lt X I (v := (T (1 + ((n_ : Nat) : Int)))) (hA.1 (1 + ((n_ : Nat) : Int))) (by omega) dL_lays_79 ?_
            refine rj_ge (tgt := 106) X (by omega) (by omega) dL_lays_80 (by decide) (fun c56 => ?_) (fun c56 => ?_)
            · skip
              refine lv_iload_n X.1 X.2.1 dL_lays_106 rfl (lv_at hl 3 rfl) ?_
              refine rz_eq (tgt := 123) X (by omega) dL_lays_107 (by decide) (fun c57 => by exfalso; omega) (fun c57 => ?_)
              refine lv_aload_n X.1 X.2.1 dL_lays_110 rfl (lv_at hl 0 rfl) ?_
              refine ri_push X (v := 59) (by decide) dL_lays_111 ?_
              refine cl_i I (runS (As := [.ref (G.2.2 0), .int (iI 59)]) (rest := []) X (k_L_writes l A G U2 T Y V HD g B AG TK h sm (oF T n_ + 3 + (k_ : Int)) (oF T (n_ + 1)) 59 hA hI hw (by omega) (by rw [oF]; omega) (by omega) (by first | exact a5_ | (rw [← a5_]; congr 1; omega))) (gdC tb_503 gdB) tb_501 tb_502 tb_13 ⟨ok_L_writes, ⟨Nat.le_of_ble_eq_true rfl, Nat.le_of_ble_eq_true rfl⟩, rfl, rfl⟩ (PreS.of I) rfl hl.1 rfl (Nat.le_of_ble_eq_true rfl) dL_lays_113 ⟨Nat.zero_le _, Nat.zero_le _⟩) (fun r58 S59 H locs q60 I => ?_)
              obtain ⟨e_, hI, hw, hA⟩ := q60
              subst e_
              refine rz_eq (tgt := 123) X (by omega) dL_lays_116 (by decide) (fun c61 => by exfalso; omega) (fun c61 => ?_)
              refine ri_const X (v := 1) dL_lays_119 ?_
              refine lv_goto (tgt := 124) X.1 X.2.1 dL_lays_120 (by decide) ?_
              refine lv_istore_n (lv' := [(3, .int (iI 1)), (0, .ref (G.2.2 0)), (1, .ref (G.2.2 57)), (2, .ref (G.2.2 58)), (4, .int (iI ((n_ : Nat) : Int))), (5, .int (iI ((k_ : Nat) : Int)))]) X.1 X.2.1 dL_lays_124 rfl hl (by decide) rfl (fun ls hl => ?_)
              refine ri_iinc X (k := 4) (v := (((n_ : Nat) : Int) + 1)) (lv' := [(4, .int (iI (((n_ : Nat) : Int) + 1))), (3, .int (iI 1)), (0, .ref (G.2.2 0)), (1, .ref (G.2.2 57)), (2, .ref (G.2.2 58)), (5, .int (iI ((k_ : Nat) : Int)))]) rfl dL_lays_125 hl rfl (by decide) rfl (fun ls hl => ?_)
              refine lv_goto (tgt := 16) X.1 X.2.1 dL_lays_128 (by decide) ?_
              have hl : lv_has ls 6 [(4, .int (iI (((n_ + 1) : Nat) : Int))), (3, .int (iI 1)), (0, .ref (G.2.2 0)), (1, .ref (G.2.2 57)), (2, .ref (G.2.2 58)), (5, .int (iI ((k_ : Nat) : Int)))] := by
                have e_ : (((n_ : Nat) : Int) + 1) = (((n_ + 1) : Nat) : Int) := (by omega)
                rw [← e_]; exact hl
              exact ih_16 (n_ + 1) S59 (by omega) (by omega) (hA) (hI) (hw) _ _ I ls (lv_sub hl [2, 3, 4, 1, 0] rfl)
            · skip
              refine lv_iload_n X.1 X.2.1 dL_lays_83 rfl (lv_at hl 3 rfl) ?_
              refine rz_eq (tgt := 106) X (by omega) dL_lays_84 (by decide) (fun c62 => by exfalso; omega) (fun c62 => ?_)
              refine lv_aload_n X.1 X.2.1 dL_lays_87 rfl (lv_at hl 0 rfl) ?_
              refine lv_aload_n X.1 X.2.1 dL_lays_88 rfl (lv_at hl 2 rfl) ?_
              refine lv_iload X.1 X.2.1 dL_lays_89 (lv_at hl 4 rfl) ?_
              refine lv_iload X.1 X.2.1 dL_lays_91 (lv_at hl 5 rfl) ?_
              refine cl_i I (runS (As := [.ref (G.2.2 58), .int (iI ((n_ : Nat) : Int)), .int (iI ((k_ : Nat) : Int))]) (rest := [.ref (G.2.2 0)]) X (k_L_sign l A G U2 T Y V HD ((n_ : Nat) : Int) ((k_ : Nat) : Int) hA (by omega) (by omega) hz.2.2) (gdC tb_510 gdB) tb_508 tb_509 tb_13 ⟨ok_L_sign, ⟨Nat.le_of_ble_eq_true rfl, Nat.le_of_ble_eq_true rfl⟩, rfl, rfl⟩ (PreS.of I) rfl hl.1 rfl (Nat.le_of_ble_eq_true rfl) dL_lays_93 ⟨Nat.zero_le _, Nat.zero_le _⟩) (fun r63 S64 H locs q65 I => ?_)
              obtain ⟨e_, es_⟩ := q65
              rw [es_] at I
              subst e_
              have g66 := sgv_s (Y ((n_ : Nat) : Int)) (((k_ : Nat) : Int))
              unfold sgn at g66
              refine cl_i I (runS (As := [.ref (G.2.2 0), .int (iI (sgv (Y ((n_ : Nat) : Int)) ((k_ : Nat) : Int)))]) (rest := []) X (k_L_writes l A G U2 T Y V HD g B AG TK h sm (oF T n_ + 3 + (k_ : Int)) (oF T n_ + 3 + ((k_ + 1 : Nat) : Int)) (sgv (Y ((n_ : Nat) : Int)) ((k_ : Nat) : Int)) hA hI hw (by omega) (by omega) (by omega) (by first | exact (a4_ k_ (by omega) (by omega)) | (rw [← (a4_ k_ (by omega) (by omega))]; congr 1; omega))) (gdC tb_503 gdB) tb_501 tb_502 tb_13 ⟨ok_L_writes, ⟨Nat.le_of_ble_eq_true rfl, Nat.le_of_ble_eq_true rfl⟩, rfl, rfl⟩ (PreS.of I) rfl hl.1 rfl (Nat.le_of_ble_eq_true rfl) dL_lays_96 ⟨Nat.zero_le _, Nat.zero_le _⟩) (fun r67 S68 H locs q69 I => ?_)
              obtain ⟨e_, hI, hw, hA⟩ := q69
              subst e_
              refine lv_istore_n (lv' := [(3, .int (iI 1)), (0, .ref (G.2.2 0)), (1, .ref (G.2.2 57)), (2, .ref (G.2.2 58)), (4, .int (iI ((n_ : Nat) : Int))), (5, .int (iI ((k_ : Nat) : Int)))]) X.1 X.2.1 dL_lays_99 rfl hl (by decide) rfl (fun ls hl => ?_)
              refine ri_iinc X (k := 5) (v := (((k_ : Nat) : Int) + 1)) (lv' := [(5, .int (iI (((k_ : Nat) : Int) + 1))), (3, .int (iI 1)), (0, .ref (G.2.2 0)), (1, .ref (G.2.2 57)), (2, .ref (G.2.2 58)), (4, .int (iI ((n_ : Nat) : Int)))]) rfl dL_lays_100 hl rfl (by decide) rfl (fun ls hl => ?_)
              refine lv_goto (tgt := 72) X.1 X.2.1 dL_lays_103 (by decide) ?_
              have hl : lv_has ls 6 [(5, .int (iI (((k_ + 1) : Nat) : Int))), (3, .int (iI 1)), (0, .ref (G.2.2 0)), (1, .ref (G.2.2 57)), (2, .ref (G.2.2 58)), (4, .int (iI ((n_ : Nat) : Int)))] := by
                have e_ : (((k_ : Nat) : Int) + 1) = (((k_ + 1) : Nat) : Int) := (by omega)
                rw [← e_]; exact hl
              exact ih_72 (k_ + 1) S68 (by omega) (by omega) (hA) (hI) (hw) _ _ I ls (lv_sub hl [2, 3, 4, 1, 5, 0] rfl)
        have hl : lv_has ls 6 [(5, .int (iI ((0 : Nat) : Int))), (3, .int (iI 1)), (0, .ref (G.2.2 0)), (1, .ref (G.2.2 57)), (2, .ref (G.2.2 58)), (4, .int (iI ((n_ : Nat) : Int)))] := by
          have e_ : 0 = ((0 : Nat) : Int) := rfl
          rw [← e_]; exact hl
        exact lp_72 (14) 0 S53 (by omega) (by omega) (hA) (hI) ((by rw [show oF T n_ + 3 + ((0 : Nat) : Int) = oF T n_ + 3 by omega]; exact hw)) _ _ I ls (lv_sub hl [2, 3, 4, 1, 5, 0] rfl)
  have hl : lv_has ls 6 [(4, .int (iI ((0 : Nat) : Int))), (3, .int (iI 1)), (0, .ref (G.2.2 0)), (1, .ref (G.2.2 57)), (2, .ref (G.2.2 58))] := by
    have e_ : 0 = ((0 : Nat) : Int) := rfl
    rw [← e_]; exact hl
  exact lp_16 (10) 0 S2 (by omega) (by omega) (hA) (hI) (hw) _ _ I ls (lv_sub hl [2, 3, 4, 1, 0] rfl)
