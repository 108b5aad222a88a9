/-! the law's worth and each -/
theorem ok_L_worth : yL_worth.cls ≠ "java/lang/invoke/MethodHandle" ∧ yL_worth.cls ≠ "java/lang/invoke/VarHandle" ∧ (parseMethodDescriptor yL_worth.desc).map (fun d => d.parameters.length) = some 5 := ⟨by decide +kernel, by decide +kernel, by decide +kernel⟩
abbrev po_L_worth (T Y V HD PK : Int → Int) (B AG TK KP h : Int) (i : Int) : Int → St → Prop := fun r S1 => r = SC T Y V i ∧ LI T Y V PK B AG TK KP h S1 ∧ AR T Y V HD S1
abbrev rm_L_worth : Room := ({ frames := 6, cells := 0, slots := 0, locals := 135 } : Room)
set_option maxRecDepth 100000 in
set_option maxHeartbeats 4000000 in
theorem k_L_worth (l : Launch) (A : Nat → Prop) (G : Ge) (S : St) (T Y V HD PK : Int → Int) (B AG TK KP h : Int) (i : Int) (hA : AR T Y V HD S) (hT : TOK T Y) (hV : VOK V) (hI : LI T Y V PK B AG TK KP h S) (hh : h ≤ 4800) (hi : 0 ≤ i ∧ i < T 0) (hs : ¬ SC T Y V i = -4) : Ki (KL A G) l yL_worth cL_worth 9 .int rm_L_worth [.ref (G.2.2 0), .ref (G.2.2 57), .ref (G.2.2 58), .int (iI i), .ref (G.2.2 59)] S (po_L_worth T Y V HD PK B AG TK KP h i) := by
  refine K_start (own := "NameSeekerLaw") (by decide +kernel) rfl (Nat.le_of_ble_eq_true rfl) ?_
  intro p e s m args below meth c X hr hlk I ls hl
  have hl : lv_has ls 9 [(0, .ref (G.2.2 0)), (1, .ref (G.2.2 57)), (2, .ref (G.2.2 58)), (3, .int (iI i)), (4, .ref (G.2.2 59))] := hl
  have hz := nm_sz hT hi
  have hT0 := hT.1
  have hV0 := hV.1
  refine ri_const X (v := 0) dL_worth_0 ?_
  refine lv_istore (lv' := [(5, .int (iI 0)), (0, .ref (G.2.2 0)), (1, .ref (G.2.2 57)), (2, .ref (G.2.2 58)), (3, .int (iI i)), (4, .ref (G.2.2 59))]) X.1 X.2.1 dL_worth_1 hl (by decide) rfl (fun ls hl => ?_)
  refine ri_const X (v := (-1)) dL_worth_3 ?_
  refine lv_istore (lv' := [(6, .int (iI (-1))), (5, .int (iI 0)), (0, .ref (G.2.2 0)), (1, .ref (G.2.2 57)), (2, .ref (G.2.2 58)), (3, .int (iI i)), (4, .ref (G.2.2 59))]) X.1 X.2.1 dL_worth_4 hl (by decide) rfl (fun ls hl => ?_)
  refine ri_const X (v := 0) dL_worth_6 ?_
  refine lv_istore (lv' := [(7, .int (iI 0)), (6, .int (iI (-1))), (5, .int (iI 0)), (0, .ref (G.2.2 0)), (1, .ref (G.2.2 57)), (2, .ref (G.2.2 58)), (3, .int (iI i)), (4, .ref (G.2.2 59))]) X.1 X.2.1 dL_worth_7 hl (by decide) rfl (fun ls hl => ?_)
  have lp_9 : ∀ (fu_ : Nat) (n_ : Nat) (U : St), 9 - n_ < fu_ → ∀ (hn : (n_ : Int) ≤ V 0) (hA : AR T Y V HD U) (hI : LI T Y V PK B AG TK KP h U) (H : Heap) (locs : List Loc), In (KL A G) s s.heap H locs U → ∀ ls : Array Slot, lv_has ls 9 [(0, .ref (G.2.2 0)), (1, .ref (G.2.2 57)), (2, .ref (G.2.2 58)), (3, .int (iI i)), (4, .ref (G.2.2 59)), (5, .int (iI (WSm T Y V i n_))), (6, .int (iI (BF T Y V i n_))), (7, .int (iI ((n_ : Nat) : Int)))] → W p l e rm_L_worth s m args below meth c H locs 0 0 (MQ below (QI (KL A G) (po_L_worth T Y V HD PK B AG TK KP h i)) args s 0 0 A) (F0 m 9 ls []) := by
    intro fu_
    induction fu_ with
    | zero => intro n_ U hm; exact absurd hm (by omega)
    | succ fu_ ih_9 =>
      intro n_ U hm_9 hn hA hI H locs I ls hl
      refine lv_iload X.1 X.2.1 dL_worth_9 (lv_at hl 7 rfl) ?_
      refine lv_aload X.1 X.2.1 dL_worth_11 (lv_at hl 4 rfl) ?_
      refine ri_const X (v := 0) dL_worth_13 ?_
      refine aL_lw X I (v := (V 0)) (hA.2.2.1 0) (by omega) dL_worth_14 ?_
      refine rj_ge (tgt := 180) X (by omega) (by omega) dL_worth_15 (by decide) (fun c1 => ?_) (fun c1 => ?_)
      · skip
        refine lv_iload X.1 X.2.1 dL_worth_180 (lv_at hl 5 rfl) ?_
        exact rt_i X hr hlk I rfl (⟨WSm_all hT hV hi hs n_ (by omega), hI, hA⟩) dL_worth_182
      · skip
        have hb := BF_lt hT hV hi hs n_ (by omega)
        refine lv_aload_n X.1 X.2.1 dL_worth_18 rfl (lv_at hl 0 rfl) ?_
        refine lv_iload_n X.1 X.2.1 dL_worth_19 rfl (lv_at hl 3 rfl) ?_
        refine lv_iload X.1 X.2.1 dL_worth_20 (lv_at hl 7 rfl) ?_
        refine clx_i I (runV (As := [.int (iI i), .int (iI ((n_ : Nat) : Int))]) (rest := []) X (k_X9_best l G U i ((n_ : Nat) : Int) (by omega) (by omega) 600 hI.1) (gdC tb_586 (gdC tb_587 (gdC tb_588 (gdC tb_14 (gdC tb_589 gdB))))) ⟨ok_X9_best, ⟨Nat.le_of_ble_eq_true rfl, Nat.le_of_ble_eq_true rfl⟩, rfl, rfl⟩ (PreV.ofL I) rfl hl.1 rfl (Nat.le_of_ble_eq_true rfl) dL_worth_22 ⟨Nat.zero_le _, Nat.zero_le _⟩) (fun _ _ q_ => f7_best q_) (fun r2 S3 H locs q4 I => ?_)
        have hA := AR_fr (f7_best q4) hA
        obtain ⟨-, e2_, hI⟩ := op_best hT hV hI (by omega) hi (by omega) q4
        have e_ := e2_ (by omega) hs
        rw [Int.toNat_natCast] at e_
        subst e_
        try clear q4
        refine lv_istore (lv' := [(8, .int (iI (PL T Y V i n_))), (0, .ref (G.2.2 0)), (1, .ref (G.2.2 57)), (2, .ref (G.2.2 58)), (3, .int (iI i)), (4, .ref (G.2.2 59)), (5, .int (iI (WSm T Y V i n_))), (6, .int (iI (BF T Y V i n_))), (7, .int (iI ((n_ : Nat) : Int)))]) X.1 X.2.1 dL_worth_25 hl (by decide) rfl (fun ls hl => ?_)
        refine lv_iload X.1 X.2.1 dL_worth_27 (lv_at hl 0 rfl) ?_
        refine lv_iload X.1 X.2.1 dL_worth_29 (lv_at hl 7 rfl) ?_
        refine rj_le (tgt := 62) X (by omega) (by omega) dL_worth_31 (by decide) (fun c5 => by exfalso; omega) (fun c5 => ?_)
        refine lv_iload X.1 X.2.1 dL_worth_34 (lv_at hl 0 rfl) ?_
        refine lv_aload_n X.1 X.2.1 dL_worth_36 rfl (lv_at hl 2 rfl) ?_
        refine ri_const X (v := 1) dL_worth_37 ?_
        refine lv_iload_n X.1 X.2.1 dL_worth_38 rfl (lv_at hl 4 rfl) ?_
        refine ri_add X (v := (1 + i)) rfl dL_worth_39 ?_
        refine aL_lt X I (v := (T (1 + i))) (hA.1 (1 + i)) (by omega) dL_worth_40 ?_
        refine rj_ge (tgt := 62) X (by omega) (by omega) dL_worth_41 (by decide) (fun c6 => by exfalso; omega) (fun c6 => ?_)
        refine lv_aload_n X.1 X.2.1 dL_worth_44 rfl (lv_at hl 2 rfl) ?_
        refine lv_aload_n X.1 X.2.1 dL_worth_45 rfl (lv_at hl 3 rfl) ?_
        refine lv_iload_n X.1 X.2.1 dL_worth_46 rfl (lv_at hl 4 rfl) ?_
        refine lv_iload X.1 X.2.1 dL_worth_47 (lv_at hl 0 rfl) ?_
        refine lv_aload X.1 X.2.1 dL_worth_49 (lv_at hl 5 rfl) ?_
        refine ri_const X (v := 1) dL_worth_51 ?_
        refine lv_iload X.1 X.2.1 dL_worth_52 (lv_at hl 8 rfl) ?_
        refine ri_add X (v := (1 + ((n_ : Nat) : Int))) rfl dL_worth_54 ?_
        refine aL_lw X I (v := (V (1 + ((n_ : Nat) : Int)))) (hA.2.2.1 (1 + ((n_ : Nat) : Int))) (by omega) dL_worth_55 ?_
        refine cl_i I (runS (As := [.ref (G.2.2 57), .ref (G.2.2 58), .int (iI i), .int (iI (PL T Y V i n_)), .int (iI (V (1 + ((n_ : Nat) : Int))))]) (rest := []) X (k_L_alike l A G S3 T Y V HD i (PL T Y V i n_) (V (1 + ((n_ : Nat) : Int))) hA (by omega) (by omega) hz.2.2 hz.2.1 (hV.2 n_ (by omega) (by omega))) (gdC tb_596 gdB) tb_594 tb_595 tb_13 ⟨ok_L_alike, ⟨Nat.le_of_ble_eq_true rfl, Nat.le_of_ble_eq_true rfl⟩, rfl, rfl⟩ (PreS.of I) rfl hl.1 rfl (Nat.le_of_ble_eq_true rfl) dL_worth_56 ⟨Nat.zero_le _, Nat.zero_le _⟩) (fun r7 S8 H locs q9 I => ?_)
        obtain ⟨e_, es_⟩ := q9
        rw [es_] at I
        have e_ : r7 = 1 := by rw [e_]; exact bI_t (PL_st hT hV hi hs n_ (by omega)).1
        subst e_
        refine rz_ne (tgt := 66) X (by omega) dL_worth_59 (by decide) (fun c10 => ?_) (fun c10 => by exfalso; omega)
        refine lv_iload X.1 X.2.1 dL_worth_66 (lv_at hl 6 rfl) ?_
        refine ri_push X (v := 50) (by decide) dL_worth_68 ?_
        have jn_112_10 : ∀ z_ : Int, 50 + z_ = OPl T Y V i n_ → ∀ (H : Heap) (locs : List Loc), In (KL A G) s s.heap H locs S3 → W p l e rm_L_worth s m args below meth c H locs 0 0 (MQ below (QI (KL A G) (po_L_worth T Y V HD PK B AG TK KP h i)) args s 0 0 A) (F0 m 112 ls [.int (iI z_), .int (iI 50), .int (iI (WSm T Y V i n_))]) := by
          intro z_ hz_ H locs I
          refine ri_add X (v := (50 + z_)) rfl dL_worth_112 ?_
          refine ri_add X (v := ((WSm T Y V i n_) + (50 + z_))) rfl dL_worth_113 ?_
          refine lv_istore (lv' := [(5, .int (iI ((WSm T Y V i n_) + (50 + z_)))), (8, .int (iI (PL T Y V i n_))), (0, .ref (G.2.2 0)), (1, .ref (G.2.2 57)), (2, .ref (G.2.2 58)), (3, .int (iI i)), (4, .ref (G.2.2 59)), (6, .int (iI (BF T Y V i n_))), (7, .int (iI ((n_ : Nat) : Int)))]) X.1 X.2.1 dL_worth_114 hl (by decide) rfl (fun ls hl => ?_)
          have hz2 : 50 + z_ = OPl T Y V i n_ := hz_
          refine lv_iload X.1 X.2.1 dL_worth_116 (lv_at hl 8 rfl) ?_
          refine rz_le (tgt := 170) X (by omega) dL_worth_118 (by decide) (fun c12 => ?_) (fun c12 => ?_)
          · skip
            refine lv_iload X.1 X.2.1 dL_worth_170 (lv_at hl 1 rfl) ?_
            refine lv_istore (lv' := [(6, .int (iI (PL T Y V i n_))), (5, .int (iI ((WSm T Y V i n_) + (50 + z_)))), (8, .int (iI (PL T Y V i n_))), (0, .ref (G.2.2 0)), (1, .ref (G.2.2 57)), (2, .ref (G.2.2 58)), (3, .int (iI i)), (4, .ref (G.2.2 59)), (7, .int (iI ((n_ : Nat) : Int)))]) X.1 X.2.1 dL_worth_172 hl (by decide) rfl (fun ls hl => ?_)
            refine ri_iinc X (k := 8) (v := (((n_ : Nat) : Int) + 1)) (lv' := [(7, .int (iI (((n_ : Nat) : Int) + 1))), (6, .int (iI (PL T Y V i n_))), (5, .int (iI ((WSm T Y V i n_) + (50 + z_)))), (8, .int (iI (PL T Y V i n_))), (0, .ref (G.2.2 0)), (1, .ref (G.2.2 57)), (2, .ref (G.2.2 58)), (3, .int (iI i)), (4, .ref (G.2.2 59))]) rfl dL_worth_174 hl rfl (by decide) rfl (fun ls hl => ?_)
            refine lv_goto (tgt := 9) X.1 X.2.1 dL_worth_177 (by decide) ?_
            have hl : lv_has ls 9 [(7, .int (iI (((n_ + 1) : Nat) : Int))), (6, .int (iI (PL T Y V i n_))), (5, .int (iI ((WSm T Y V i n_) + (50 + z_)))), (8, .int (iI (PL T Y V i n_))), (0, .ref (G.2.2 0)), (1, .ref (G.2.2 57)), (2, .ref (G.2.2 58)), (3, .int (iI i)), (4, .ref (G.2.2 59))] := by
              have e_ : (((n_ : Nat) : Int) + 1) = (((n_ + 1) : Nat) : Int) := (by omega)
              rw [← e_]; exact hl
            have hl : lv_has ls 9 [(7, .int (iI (((n_ + 1) : Nat) : Int))), (6, .int (iI (BF T Y V i (n_ + 1)))), (5, .int (iI ((WSm T Y V i n_) + (50 + z_)))), (8, .int (iI (PL T Y V i n_))), (0, .ref (G.2.2 0)), (1, .ref (G.2.2 57)), (2, .ref (G.2.2 58)), (3, .int (iI i)), (4, .ref (G.2.2 59))] := by
              have e_ : (PL T Y V i n_) = (BF T Y V i (n_ + 1)) := rfl
              rw [← e_]; exact hl
            have hl : lv_has ls 9 [(7, .int (iI (((n_ + 1) : Nat) : Int))), (6, .int (iI (BF T Y V i (n_ + 1)))), (5, .int (iI (WSm T Y V i (n_ + 1)))), (8, .int (iI (PL T Y V i n_))), (0, .ref (G.2.2 0)), (1, .ref (G.2.2 57)), (2, .ref (G.2.2 58)), (3, .int (iI i)), (4, .ref (G.2.2 59))] := by
              have e_ : ((WSm T Y V i n_) + (50 + z_)) = (WSm T Y V i (n_ + 1)) := (by rw [WSm]; (first | (rw [if_pos (by omega)]; omega) | (rw [if_neg (by omega)]; omega)))
              rw [← e_]; exact hl
            exact ih_9 (n_ + 1) S3 (by omega) (by omega) (hA) (hI) _ _ I ls (lv_sub hl [4, 5, 6, 7, 8, 2, 1, 0] rfl)
          · skip
            refine lv_iload X.1 X.2.1 dL_worth_121 (lv_at hl 0 rfl) ?_
            have jn_167_12 : ∀ y_ : Int, y_ = OSt T Y V i n_ → ∀ (H : Heap) (locs : List Loc), In (KL A G) s s.heap H locs S3 → W p l e rm_L_worth s m args below meth c H locs 0 0 (MQ below (QI (KL A G) (po_L_worth T Y V HD PK B AG TK KP h i)) args s 0 0 A) (F0 m 167 ls [.int (iI y_), .int (iI ((WSm T Y V i n_) + (50 + z_)))]) := by
              intro y_ hy_ H locs I
              refine ri_add X (v := (((WSm T Y V i n_) + (50 + z_)) + y_)) rfl dL_worth_167 ?_
              refine lv_istore (lv' := [(5, .int (iI (((WSm T Y V i n_) + (50 + z_)) + y_))), (8, .int (iI (PL T Y V i n_))), (0, .ref (G.2.2 0)), (1, .ref (G.2.2 57)), (2, .ref (G.2.2 58)), (3, .int (iI i)), (4, .ref (G.2.2 59)), (6, .int (iI (BF T Y V i n_))), (7, .int (iI ((n_ : Nat) : Int)))]) X.1 X.2.1 dL_worth_168 hl (by decide) rfl (fun ls hl => ?_)
              refine lv_iload X.1 X.2.1 dL_worth_170 (lv_at hl 1 rfl) ?_
              refine lv_istore (lv' := [(6, .int (iI (PL T Y V i n_))), (5, .int (iI (((WSm T Y V i n_) + (50 + z_)) + y_))), (8, .int (iI (PL T Y V i n_))), (0, .ref (G.2.2 0)), (1, .ref (G.2.2 57)), (2, .ref (G.2.2 58)), (3, .int (iI i)), (4, .ref (G.2.2 59)), (7, .int (iI ((n_ : Nat) : Int)))]) X.1 X.2.1 dL_worth_172 hl (by decide) rfl (fun ls hl => ?_)
              refine ri_iinc X (k := 8) (v := (((n_ : Nat) : Int) + 1)) (lv' := [(7, .int (iI (((n_ : Nat) : Int) + 1))), (6, .int (iI (PL T Y V i n_))), (5, .int (iI (((WSm T Y V i n_) + (50 + z_)) + y_))), (8, .int (iI (PL T Y V i n_))), (0, .ref (G.2.2 0)), (1, .ref (G.2.2 57)), (2, .ref (G.2.2 58)), (3, .int (iI i)), (4, .ref (G.2.2 59))]) rfl dL_worth_174 hl rfl (by decide) rfl (fun ls hl => ?_)
              refine lv_goto (tgt := 9) X.1 X.2.1 dL_worth_177 (by decide) ?_
              have hl : lv_has ls 9 [(7, .int (iI (((n_ + 1) : Nat) : Int))), (6, .int (iI (PL T Y V i n_))), (5, .int (iI (((WSm T Y V i n_) + (50 + z_)) + y_))), (8, .int (iI (PL T Y V i n_))), (0, .ref (G.2.2 0)), (1, .ref (G.2.2 57)), (2, .ref (G.2.2 58)), (3, .int (iI i)), (4, .ref (G.2.2 59))] := by
                have e_ : (((n_ : Nat) : Int) + 1) = (((n_ + 1) : Nat) : Int) := (by omega)
                rw [← e_]; exact hl
              have hl : lv_has ls 9 [(7, .int (iI (((n_ + 1) : Nat) : Int))), (6, .int (iI (BF T Y V i (n_ + 1)))), (5, .int (iI (((WSm T Y V i n_) + (50 + z_)) + y_))), (8, .int (iI (PL T Y V i n_))), (0, .ref (G.2.2 0)), (1, .ref (G.2.2 57)), (2, .ref (G.2.2 58)), (3, .int (iI i)), (4, .ref (G.2.2 59))] := by
                have e_ : (PL T Y V i n_) = (BF T Y V i (n_ + 1)) := rfl
                rw [← e_]; exact hl
              have hl : lv_has ls 9 [(7, .int (iI (((n_ + 1) : Nat) : Int))), (6, .int (iI (BF T Y V i (n_ + 1)))), (5, .int (iI (WSm T Y V i (n_ + 1)))), (8, .int (iI (PL T Y V i n_))), (0, .ref (G.2.2 0)), (1, .ref (G.2.2 57)), (2, .ref (G.2.2 58)), (3, .int (iI i)), (4, .ref (G.2.2 59))] := by
                have e_ : (((WSm T Y V i n_) + (50 + z_)) + y_) = (WSm T Y V i (n_ + 1)) := (by rw [WSm]; (first | (rw [if_pos (by omega)]; omega) | (rw [if_neg (by omega)]; omega)))
                rw [← e_]; exact hl
              exact ih_9 (n_ + 1) S3 (by omega) (by omega) (hA) (hI) _ _ I ls (lv_sub hl [4, 5, 6, 7, 8, 2, 1, 0] rfl)
            refine lv_iload X.1 X.2.1 dL_worth_123 (lv_at hl 1 rfl) ?_
            refine lv_iload X.1 X.2.1 dL_worth_125 (lv_at hl 7 rfl) ?_
            refine ri_const X (v := 1) dL_worth_127 ?_
            refine ri_add X (v := ((BF T Y V i n_) + 1)) rfl dL_worth_128 ?_
            refine rj_ne (tgt := 139) X (by omega) (by omega) dL_worth_129 (by decide) (fun c14 => ?_) (fun c14 => ?_)
            · skip
              refine lv_aload_n X.1 X.2.1 dL_worth_139 rfl (lv_at hl 3 rfl) ?_
              refine ri_push X (v := 9) (by decide) dL_worth_140 ?_
              refine lv_iload_n X.1 X.2.1 dL_worth_142 rfl (lv_at hl 5 rfl) ?_
              refine ri_add X (v := (9 + i)) rfl dL_worth_143 ?_
              refine aL_lt X I (v := (T (9 + i))) (hA.1 (9 + i)) (by omega) dL_worth_144 ?_
              refine ri_const X (v := 3) dL_worth_145 ?_
              refine rj_ne (tgt := 153) X (by omega) (by omega) dL_worth_146 (by decide) (fun c15 => ?_) (fun c15 => ?_)
              · skip
                refine ri_const X (v := 0) dL_worth_153 ?_
                refine lv_aload_n X.1 X.2.1 dL_worth_154 rfl (lv_at hl 3 rfl) ?_
                refine ri_push X (v := 19) (by decide) dL_worth_155 ?_
                refine aL_lt X I (v := (T 19)) (hA.1 19) (by omega) dL_worth_157 ?_
                refine lv_iload X.1 X.2.1 dL_worth_158 (lv_at hl 1 rfl) ?_
                refine lv_iload X.1 X.2.1 dL_worth_160 (lv_at hl 7 rfl) ?_
                refine ri_sub X (v := ((PL T Y V i n_) - (BF T Y V i n_))) rfl dL_worth_162 ?_
                refine ri_const X (v := 1) dL_worth_163 ?_
                refine ri_sub X (v := (((PL T Y V i n_) - (BF T Y V i n_)) - 1)) rfl dL_worth_164 ?_
                refine ri_mul X (v := ((T 19) * (((PL T Y V i n_) - (BF T Y V i n_)) - 1))) rfl dL_worth_165 ?_
                refine ri_sub X (v := (0 - ((T 19) * (((PL T Y V i n_) - (BF T Y V i n_)) - 1)))) rfl dL_worth_166 ?_
                exact jn_167_12 (0 - ((T 19) * (((PL T Y V i n_) - (BF T Y V i n_)) - 1))) (by first | exact (ost_1 (by omega)).symm | exact (ost_3 (by omega) (by omega)).symm | exact (ost_g (by omega) (by omega)).symm) _ _ I
              · skip
                refine ri_const X (v := 0) dL_worth_149 ?_
                refine lv_goto (tgt := 167) X.1 X.2.1 dL_worth_150 (by decide) ?_
                exact jn_167_12 0 (by first | exact (ost_1 (by omega)).symm | exact (ost_3 (by omega) (by omega)).symm | exact (ost_g (by omega) (by omega)).symm) _ _ I
            · skip
              refine lv_aload_n X.1 X.2.1 dL_worth_132 rfl (lv_at hl 3 rfl) ?_
              refine ri_push X (v := 18) (by decide) dL_worth_133 ?_
              refine aL_lt X I (v := (T 18)) (hA.1 18) (by omega) dL_worth_135 ?_
              refine lv_goto (tgt := 167) X.1 X.2.1 dL_worth_136 (by decide) ?_
              exact jn_167_12 (T 18) (by first | exact (ost_1 (by omega)).symm | exact (ost_3 (by omega) (by omega)).symm | exact (ost_g (by omega) (by omega)).symm) _ _ I
        refine lv_aload_n X.1 X.2.1 dL_worth_70 rfl (lv_at hl 3 rfl) ?_
        refine lv_iload_n X.1 X.2.1 dL_worth_71 rfl (lv_at hl 4 rfl) ?_
        refine lv_iload X.1 X.2.1 dL_worth_72 (lv_at hl 0 rfl) ?_
        refine cl_i I (runS (As := [.ref (G.2.2 58), .int (iI i), .int (iI (PL T Y V i n_))]) (rest := [.int (iI 50), .int (iI (WSm T Y V i n_))]) X (k_L_isBeginning l A G S3 T Y V HD i (PL T Y V i n_) hA (by omega) (by omega) hz.2.2) (gdC tb_602 gdB) tb_600 tb_601 tb_13 ⟨ok_L_isBeginning, ⟨Nat.le_of_ble_eq_true rfl, Nat.le_of_ble_eq_true rfl⟩, rfl, rfl⟩ (PreS.of I) rfl hl.1 rfl (Nat.le_of_ble_eq_true rfl) dL_worth_74 ⟨Nat.zero_le _, Nat.zero_le _⟩) (fun r16 S17 H locs q18 I => ?_)
        obtain ⟨e_, es_⟩ := q18
        rw [es_] at I
        subst e_
        have hop : (bgP (SG Y i) (PL T Y V i n_) ∧ OPl T Y V i n_ = 50 + (if T (9 + i) = 2 ∧ PL T Y V i n_ = 0 then 2 * T 17 else T 17)) ∨ (¬ bgP (SG Y i) (PL T Y V i n_) ∧ OPl T Y V i n_ = 50) := (Decidable.em (bgP (SG Y i) (PL T Y V i n_))).elim (fun z_ => Or.inl ⟨z_, opl_y (by omega) z_⟩) (fun z_ => Or.inr ⟨z_, opl_n (by omega) z_⟩)
        skip
        refine rz_eq (tgt := 111) X (by unfold bI; split <;> omega) dL_worth_77 (by decide) (fun c19 => ?_) (fun c19 => ?_)
        · skip
          refine ri_const X (v := 0) dL_worth_111 ?_
          exact jn_112_10 0 (by first | omega | (rcases hop with ⟨p1_, p2_⟩ | ⟨p1_, p2_⟩ <;> (try split at p2_) <;> (first | omega | (unfold bI at *; split at * <;> omega)))) _ _ I
        · skip
          refine lv_iload X.1 X.2.1 dL_worth_80 (lv_at hl 0 rfl) ?_
          refine rz_ne (tgt := 104) X (by omega) dL_worth_82 (by decide) (fun c20 => ?_) (fun c20 => ?_)
          · skip
            refine lv_aload_n X.1 X.2.1 dL_worth_104 rfl (lv_at hl 2 rfl) ?_
            refine ri_push X (v := 17) (by decide) dL_worth_105 ?_
            refine aL_lt X I (v := (T 17)) (hA.1 17) (by omega) dL_worth_107 ?_
            refine lv_goto (tgt := 112) X.1 X.2.1 dL_worth_108 (by decide) ?_
            exact jn_112_10 (T 17) (by first | omega | (rcases hop with ⟨p1_, p2_⟩ | ⟨p1_, p2_⟩ <;> (try split at p2_) <;> (first | omega | (unfold bI at *; split at * <;> omega)))) _ _ I
          · skip
            refine lv_aload_n X.1 X.2.1 dL_worth_85 rfl (lv_at hl 2 rfl) ?_
            refine ri_push X (v := 9) (by decide) dL_worth_86 ?_
            refine lv_iload_n X.1 X.2.1 dL_worth_88 rfl (lv_at hl 4 rfl) ?_
            refine ri_add X (v := (9 + i)) rfl dL_worth_89 ?_
            refine aL_lt X I (v := (T (9 + i))) (hA.1 (9 + i)) (by omega) dL_worth_90 ?_
            refine ri_const X (v := 2) dL_worth_91 ?_
            refine rj_ne (tgt := 104) X (by omega) (by omega) dL_worth_92 (by decide) (fun c21 => ?_) (fun c21 => ?_)
            · skip
              refine lv_aload_n X.1 X.2.1 dL_worth_104 rfl (lv_at hl 2 rfl) ?_
              refine ri_push X (v := 17) (by decide) dL_worth_105 ?_
              refine aL_lt X I (v := (T 17)) (hA.1 17) (by omega) dL_worth_107 ?_
              refine lv_goto (tgt := 112) X.1 X.2.1 dL_worth_108 (by decide) ?_
              exact jn_112_10 (T 17) (by first | omega | (rcases hop with ⟨p1_, p2_⟩ | ⟨p1_, p2_⟩ <;> (try split at p2_) <;> (first | omega | (unfold bI at *; split at * <;> omega)))) _ _ I
            · skip
              refine ri_const X (v := 2) dL_worth_95 ?_
              refine lv_aload_n X.1 X.2.1 dL_worth_96 rfl (lv_at hl 2 rfl) ?_
              refine ri_push X (v := 17) (by decide) dL_worth_97 ?_
              refine aL_lt X I (v := (T 17)) (hA.1 17) (by omega) dL_worth_99 ?_
              refine ri_mul X (v := (2 * (T 17))) rfl dL_worth_100 ?_
              refine lv_goto (tgt := 112) X.1 X.2.1 dL_worth_101 (by decide) ?_
              exact jn_112_10 (2 * (T 17)) (by first | omega | (rcases hop with ⟨p1_, p2_⟩ | ⟨p1_, p2_⟩ <;> (try split at p2_) <;> (first | omega | (unfold bI at *; split at * <;> omega)))) _ _ I
  have hl : lv_has ls 9 [(7, .int (iI ((0 : Nat) : Int))), (6, .int (iI (-1))), (5, .int (iI 0)), (0, .ref (G.2.2 0)), (1, .ref (G.2.2 57)), (2, .ref (G.2.2 58)), (3, .int (iI i)), (4, .ref (G.2.2 59))] := by
    have e_ : 0 = ((0 : Nat) : Int) := rfl
    rw [← e_]; exact hl
  have hl : lv_has ls 9 [(7, .int (iI ((0 : Nat) : Int))), (6, .int (iI (BF T Y V i 0))), (5, .int (iI 0)), (0, .ref (G.2.2 0)), (1, .ref (G.2.2 57)), (2, .ref (G.2.2 58)), (3, .int (iI i)), (4, .ref (G.2.2 59))] := by
    have e_ : (-1) = (BF T Y V i 0) := rfl
    rw [← e_]; exact hl
  have hl : lv_has ls 9 [(7, .int (iI ((0 : Nat) : Int))), (6, .int (iI (BF T Y V i 0))), (5, .int (iI (WSm T Y V i 0))), (0, .ref (G.2.2 0)), (1, .ref (G.2.2 57)), (2, .ref (G.2.2 58)), (3, .int (iI i)), (4, .ref (G.2.2 59))] := by
    have e_ : 0 = (WSm T Y V i 0) := rfl
    rw [← e_]; exact hl
  exact lp_9 (10) 0 S (by omega) (by omega) (hA) (hI) _ _ I ls (lv_sub hl [3, 4, 5, 6, 7, 2, 1, 0] rfl)

theorem ok_L_each : yL_each.cls ≠ "java/lang/invoke/MethodHandle" ∧ yL_each.cls ≠ "java/lang/invoke/VarHandle" ∧ (parseMethodDescriptor yL_each.desc).map (fun d => d.parameters.length) = some 4 := ⟨by decide +kernel, by decide +kernel, by decide +kernel⟩
abbrev po_L_each (T Y V HD PK : Int → Int) (B AG TK KP h : Int)  : Int → St → Prop := fun r S1 => r = 1 ∧ LI T Y V PK B AG TK KP (h + 16) S1 ∧ AR T Y V HD S1
abbrev rm_L_each : Room := ({ frames := 7, cells := 0, slots := 0, locals := 163 } : Room)
set_option maxRecDepth 100000 in
set_option maxHeartbeats 4000000 in
theorem k_L_each (l : Launch) (A : Nat → Prop) (G : Ge) (S : St) (T Y V HD PK : Int → Int) (B AG TK KP h : Int) (hA : AR T Y V HD S) (hT : TOK T Y) (hV : VOK V) (hI : LI T Y V PK B AG TK KP h S) (hh : h + 16 ≤ 4800) : Ki (KL A G) l yL_each cL_each 11 .boolean rm_L_each [.ref (G.2.2 0), .ref (G.2.2 57), .ref (G.2.2 58), .ref (G.2.2 59)] S (po_L_each T Y V HD PK B AG TK KP h) := by
  refine K_start (own := "NameSeekerLaw") (by decide +kernel) rfl (Nat.le_of_ble_eq_true rfl) ?_
  intro p e s m args below meth c X hr hlk I ls hl
  have hl : lv_has ls 11 [(0, .ref (G.2.2 0)), (1, .ref (G.2.2 57)), (2, .ref (G.2.2 58)), (3, .ref (G.2.2 59))] := hl
  have hT0 := hT.1
  have hV0 := hV.1
  have hp0 := psb_r (PSs T Y V) (T 0).toNat (by omega)
  have hp1 := psb_r (fun y_ => ¬ SC T Y V y_ = -4) (T 0).toNat (by omega)
  have hp2 : bandn (psb (fun y_ => ¬ SC T Y V y_ = -4) (T 0).toNat) (psb (PSs T Y V) (T 0).toNat) = 0 := psb_sub (fun i_ a_ b_ z_ => SC_ps hT hV ⟨a_, by omega⟩ z_)
  have hp3 := psb_lt (PSs T Y V) (T 0).toNat (by omega)
  rw [show (((T 0).toNat : Nat) : Int) = T 0 by omega] at hp3
  refine lv_aload_n X.1 X.2.1 dL_each_0 rfl (lv_at hl 0 rfl) ?_
  refine ri_const X (v := 0) dL_each_1 ?_
  refine clx_i I (runV (As := [.int (iI 0)]) (rest := []) X (k_X9_passes l G S 0 (by omega) 600 hI.1) (gdC tb_449 (gdC tb_450 (gdC tb_451 (gdC tb_14 (gdC tb_452 gdB))))) ⟨ok_X9_passes, ⟨Nat.le_of_ble_eq_true rfl, Nat.le_of_ble_eq_true rfl⟩, rfl, rfl⟩ (PreV.ofL I) rfl hl.1 rfl (Nat.le_of_ble_eq_true rfl) dL_each_2 ⟨Nat.zero_le _, Nat.zero_le _⟩) (fun _ _ q_ => f7_passes q_) (fun r1 S2 H locs q3 I => ?_)
  have hA := AR_fr (f7_passes q3) hA
  obtain ⟨e_, hI, h61_, h62_⟩ := op_passes0 hV hI (by omega) q3
  subst e_
  try clear q3
  refine lv_istore (lv' := [(4, .int (iI (psb (PSs T Y V) (T 0).toNat))), (0, .ref (G.2.2 0)), (1, .ref (G.2.2 57)), (2, .ref (G.2.2 58)), (3, .ref (G.2.2 59))]) X.1 X.2.1 dL_each_5 hl (by decide) rfl (fun ls hl => ?_)
  refine lv_aload_n X.1 X.2.1 dL_each_7 rfl (lv_at hl 1 rfl) ?_
  refine ri_const X (v := 1) dL_each_8 ?_
  refine clx_i I (runV (As := [.int (iI 1)]) (rest := []) X (k_X9_passes l G S2 1 (by omega) 600 hI.1) (gdC tb_449 (gdC tb_450 (gdC tb_451 (gdC tb_14 (gdC tb_452 gdB))))) ⟨ok_X9_passes, ⟨Nat.le_of_ble_eq_true rfl, Nat.le_of_ble_eq_true rfl⟩, rfl, rfl⟩ (PreV.ofL I) rfl hl.1 rfl (Nat.le_of_ble_eq_true rfl) dL_each_9 ⟨Nat.zero_le _, Nat.zero_le _⟩) (fun _ _ q_ => f7_passes q_) (fun r4 S5 H locs q6 I => ?_)
  have hA := AR_fr (f7_passes q6) hA
  obtain ⟨e_, hI, h61_, h62_⟩ := op_passes1 hT hV hI (by omega) q6
  subst e_
  try clear q6
  refine lv_istore (lv' := [(5, .int (iI (psb (fun y_ => ¬ SC T Y V y_ = -4) (T 0).toNat))), (4, .int (iI (psb (PSs T Y V) (T 0).toNat))), (0, .ref (G.2.2 0)), (1, .ref (G.2.2 57)), (2, .ref (G.2.2 58)), (3, .ref (G.2.2 59))]) X.1 X.2.1 dL_each_12 hl (by decide) rfl (fun ls hl => ?_)
  refine lv_iload X.1 X.2.1 dL_each_14 (lv_at hl 1 rfl) ?_
  refine rz_lt (tgt := 48) X (by omega) dL_each_16 (by decide) (fun c7 => by exfalso; omega) (fun c7 => ?_)
  refine lv_iload X.1 X.2.1 dL_each_19 (lv_at hl 0 rfl) ?_
  refine rz_lt (tgt := 48) X (by omega) dL_each_21 (by decide) (fun c8 => by exfalso; omega) (fun c8 => ?_)
  refine lv_iload X.1 X.2.1 dL_each_24 (lv_at hl 0 rfl) ?_
  refine lv_iload X.1 X.2.1 dL_each_26 (lv_at hl 1 rfl) ?_
  refine ri_andnot X (by omega) (by omega) dL_each_28 dL_each_29 dL_each_30 ?_
  refine rz_ne (tgt := 48) X (by omega) dL_each_31 (by decide) (fun c9 => by exfalso; omega) (fun c9 => ?_)
  refine lv_iload X.1 X.2.1 dL_each_34 (lv_at hl 1 rfl) ?_
  refine ri_const X (v := 1) dL_each_36 ?_
  refine lv_aload_n X.1 X.2.1 dL_each_37 rfl (lv_at hl 3 rfl) ?_
  refine ri_const X (v := 0) dL_each_38 ?_
  refine aL_lt X I (v := (T 0)) (hA.1 0) (by omega) dL_each_39 ?_
  refine ri_shl X (by omega) dL_each_40 ?_
  have t10 := pw_r (k := (T 0)) (by omega)
  refine rj_ge (tgt := 48) X (by omega) (by omega) dL_each_41 (by decide) (fun c11 => by exfalso; omega) (fun c11 => ?_)
  refine ri_const X (v := 1) dL_each_44 ?_
  refine lv_goto (tgt := 49) X.1 X.2.1 dL_each_45 (by decide) ?_
  refine lv_istore (lv' := [(6, .int (iI 1)), (5, .int (iI (psb (fun y_ => ¬ SC T Y V y_ = -4) (T 0).toNat))), (4, .int (iI (psb (PSs T Y V) (T 0).toNat))), (0, .ref (G.2.2 0)), (1, .ref (G.2.2 57)), (2, .ref (G.2.2 58)), (3, .ref (G.2.2 59))]) X.1 X.2.1 dL_each_49 hl (by decide) rfl (fun ls hl => ?_)
  refine ri_const X (v := 0) dL_each_51 ?_
  refine lv_istore (lv' := [(7, .int (iI 0)), (6, .int (iI 1)), (5, .int (iI (psb (fun y_ => ¬ SC T Y V y_ = -4) (T 0).toNat))), (4, .int (iI (psb (PSs T Y V) (T 0).toNat))), (0, .ref (G.2.2 0)), (1, .ref (G.2.2 57)), (2, .ref (G.2.2 58)), (3, .ref (G.2.2 59))]) X.1 X.2.1 dL_each_52 hl (by decide) rfl (fun ls hl => ?_)
  have lp_54 : ∀ (fu_ : Nat) (n_ : Nat) (U : St), 9 - n_ < fu_ → ∀ (hn : (n_ : Int) ≤ T 0) (hA : AR T Y V HD U) (hI : LI T Y V PK B AG TK KP (h + 2 * n_) U) (H : Heap) (locs : List Loc), In (KL A G) s s.heap H locs U → ∀ ls : Array Slot, lv_has ls 11 [(0, .ref (G.2.2 0)), (1, .ref (G.2.2 57)), (2, .ref (G.2.2 58)), (3, .ref (G.2.2 59)), (4, .int (iI (psb (PSs T Y V) (T 0).toNat))), (5, .int (iI (psb (fun y_ => ¬ SC T Y V y_ = -4) (T 0).toNat))), (6, .int (iI 1)), (7, .int (iI ((n_ : Nat) : Int)))] → W p l e rm_L_each s m args below meth c H locs 0 0 (MQ below (QI (KL A G) (po_L_each T Y V HD PK B AG TK KP h)) args s 0 0 A) (F0 m 54 ls []) := by
    intro fu_
    induction fu_ with
    | zero => intro n_ U hm; exact absurd hm (by omega)
    | succ fu_ ih_54 =>
      intro n_ U hm_54 hn hA hI H locs I ls hl
      refine lv_iload X.1 X.2.1 dL_each_54 (lv_at hl 7 rfl) ?_
      refine lv_aload_n X.1 X.2.1 dL_each_56 rfl (lv_at hl 1 rfl) ?_
      refine ri_const X (v := 0) dL_each_57 ?_
      refine aL_lt X I (v := (T 0)) (hA.1 0) (by omega) dL_each_58 ?_
      refine rj_ge (tgt := 247) X (by omega) (by omega) dL_each_59 (by decide) (fun c12 => ?_) (fun c12 => ?_)
      · skip
        refine lv_iload X.1 X.2.1 dL_each_247 (lv_at hl 6 rfl) ?_
        exact rt_i X hr hlk I (by rfl) (⟨rfl, LI_h hI (by omega), hA⟩) dL_each_249
      · skip
        refine lv_iload X.1 X.2.1 dL_each_62 (lv_at hl 6 rfl) ?_
        refine rz_eq (tgt := 247) X (by omega) dL_each_64 (by decide) (fun c13 => by exfalso; omega) (fun c13 => ?_)
        refine lv_aload_n X.1 X.2.1 dL_each_67 rfl (lv_at hl 0 rfl) ?_
        refine lv_iload X.1 X.2.1 dL_each_68 (lv_at hl 7 rfl) ?_
        refine clx_i I (runV (As := [.int (iI ((n_ : Nat) : Int))]) (rest := []) X (k_X9_score l G U ((n_ : Nat) : Int) (by omega) 600 hI.1) (gdC tb_538 (gdC tb_539 (gdC tb_540 (gdC tb_14 (gdC tb_541 gdB))))) ⟨ok_X9_score, ⟨Nat.le_of_ble_eq_true rfl, Nat.le_of_ble_eq_true rfl⟩, rfl, rfl⟩ (PreV.ofL I) rfl hl.1 rfl (Nat.le_of_ble_eq_true rfl) dL_each_70 ⟨Nat.zero_le _, Nat.zero_le _⟩) (fun _ _ q_ => f7_score q_) (fun r14 S15 H locs q16 I => ?_)
        have hA := AR_fr (f7_score q16) hA
        obtain ⟨e_, hI, kn17, hskn17, hkkn17⟩ := op_score hT hV hI (by omega) ⟨by omega, by omega⟩ q16
        subst e_
        try clear q16
        refine lv_istore (lv' := [(8, .int (iI (SC T Y V ((n_ : Nat) : Int)))), (0, .ref (G.2.2 0)), (1, .ref (G.2.2 57)), (2, .ref (G.2.2 58)), (3, .ref (G.2.2 59)), (4, .int (iI (psb (PSs T Y V) (T 0).toNat))), (5, .int (iI (psb (fun y_ => ¬ SC T Y V y_ = -4) (T 0).toNat))), (6, .int (iI 1)), (7, .int (iI ((n_ : Nat) : Int)))]) X.1 X.2.1 dL_each_73 hl (by decide) rfl (fun ls hl => ?_)
        have hr_ := SC_r hT (i := (n_ : Int)) (by omega) hV
        have hc_ := hI.2.2.2.2.2
        refine lv_aload_n X.1 X.2.1 dL_each_75 rfl (lv_at hl 1 rfl) ?_
        refine ri_push X (v := 7) (by decide) dL_each_76 ?_
        refine clx_i I (runV (As := [.int (iI 7)]) (rest := []) X (k_X9_count l G S15 7 (by omega) 600 hI.1) (gdC tb_470 (gdC tb_471 (gdC tb_472 (gdC tb_14 (gdC tb_473 gdB))))) ⟨ok_X9_count, ⟨Nat.le_of_ble_eq_true rfl, Nat.le_of_ble_eq_true rfl⟩, rfl, rfl⟩ (PreV.ofL I) rfl hl.1 rfl (Nat.le_of_ble_eq_true rfl) dL_each_78 ⟨Nat.zero_le _, Nat.zero_le _⟩) (fun _ _ q_ => f7_count q_) (fun r18 S19 H locs q20 I => ?_)
        have hA := AR_fr (f7_count q20) hA
        obtain ⟨e_, es_⟩ := cnt_7 q20
        rw [es_] at I hA
        subst e_
        try clear q20
        refine lv_istore (lv' := [(9, .int (iI (S15.1 61 0))), (8, .int (iI (SC T Y V ((n_ : Nat) : Int)))), (0, .ref (G.2.2 0)), (1, .ref (G.2.2 57)), (2, .ref (G.2.2 58)), (3, .ref (G.2.2 59)), (4, .int (iI (psb (PSs T Y V) (T 0).toNat))), (5, .int (iI (psb (fun y_ => ¬ SC T Y V y_ = -4) (T 0).toNat))), (6, .int (iI 1)), (7, .int (iI ((n_ : Nat) : Int)))]) X.1 X.2.1 dL_each_81 hl (by decide) rfl (fun ls hl => ?_)
        refine lv_aload_n X.1 X.2.1 dL_each_83 rfl (lv_at hl 2 rfl) ?_
        refine ri_push X (v := 8) (by decide) dL_each_84 ?_
        refine clx_i I (runV (As := [.int (iI 8)]) (rest := []) X (k_X9_count l G S15 8 (by omega) 600 hI.1) (gdC tb_470 (gdC tb_471 (gdC tb_472 (gdC tb_14 (gdC tb_473 gdB))))) ⟨ok_X9_count, ⟨Nat.le_of_ble_eq_true rfl, Nat.le_of_ble_eq_true rfl⟩, rfl, rfl⟩ (PreV.ofL I) rfl hl.1 rfl (Nat.le_of_ble_eq_true rfl) dL_each_86 ⟨Nat.zero_le _, Nat.zero_le _⟩) (fun _ _ q_ => f7_count q_) (fun r21 S22 H locs q23 I => ?_)
        have hA := AR_fr (f7_count q23) hA
        obtain ⟨e_, es_⟩ := cnt_8 q23
        rw [es_] at I hA
        subst e_
        try clear q23
        refine lv_istore (lv' := [(10, .int (iI (S15.1 62 0))), (9, .int (iI (S15.1 61 0))), (8, .int (iI (SC T Y V ((n_ : Nat) : Int)))), (0, .ref (G.2.2 0)), (1, .ref (G.2.2 57)), (2, .ref (G.2.2 58)), (3, .ref (G.2.2 59)), (4, .int (iI (psb (PSs T Y V) (T 0).toNat))), (5, .int (iI (psb (fun y_ => ¬ SC T Y V y_ = -4) (T 0).toNat))), (6, .int (iI 1)), (7, .int (iI ((n_ : Nat) : Int)))]) X.1 X.2.1 dL_each_89 hl (by decide) rfl (fun ls hl => ?_)
        refine lv_aload_n X.1 X.2.1 dL_each_91 rfl (lv_at hl 3 rfl) ?_
        refine lv_iload X.1 X.2.1 dL_each_92 (lv_at hl 10 rfl) ?_
        refine clx_i I (runV (As := [.int (iI ((n_ : Nat) : Int))]) (rest := []) X (k_X9_score l G S15 ((n_ : Nat) : Int) (by omega) 600 hI.1) (gdC tb_538 (gdC tb_539 (gdC tb_540 (gdC tb_14 (gdC tb_541 gdB))))) ⟨ok_X9_score, ⟨Nat.le_of_ble_eq_true rfl, Nat.le_of_ble_eq_true rfl⟩, rfl, rfl⟩ (PreV.ofL I) rfl hl.1 rfl (Nat.le_of_ble_eq_true rfl) dL_each_94 ⟨Nat.zero_le _, Nat.zero_le _⟩) (fun _ _ q_ => f7_score q_) (fun r24 S25 H locs q26 I => ?_)
        have hA := AR_fr (f7_score q26) hA
        obtain ⟨e_, hI, kn27, hskn27, hkkn27⟩ := op_score hT hV hI (by omega) ⟨by omega, by omega⟩ q26
        subst e_
        try clear q26
        have hx_ := hkkn27 kn17
        have hc2_ := hI.2.2.2.2.2
        refine lv_iload X.1 X.2.1 dL_each_97 (lv_at hl 2 rfl) ?_
        refine rj_ne (tgt := 130) X (by omega) (by omega) dL_each_99 (by decide) (fun c28 => by exfalso; omega) (fun c28 => ?_)
        refine lv_aload_n X.1 X.2.1 dL_each_102 rfl (lv_at hl 3 rfl) ?_
        refine ri_push X (v := 7) (by decide) dL_each_103 ?_
        refine clx_i I (runV (As := [.int (iI 7)]) (rest := []) X (k_X9_count l G S25 7 (by omega) 600 hI.1) (gdC tb_470 (gdC tb_471 (gdC tb_472 (gdC tb_14 (gdC tb_473 gdB))))) ⟨ok_X9_count, ⟨Nat.le_of_ble_eq_true rfl, Nat.le_of_ble_eq_true rfl⟩, rfl, rfl⟩ (PreV.ofL I) rfl hl.1 rfl (Nat.le_of_ble_eq_true rfl) dL_each_105 ⟨Nat.zero_le _, Nat.zero_le _⟩) (fun _ _ q_ => f7_count q_) (fun r29 S30 H locs q31 I => ?_)
        have hA := AR_fr (f7_count q31) hA
        obtain ⟨e_, es_⟩ := cnt_7 q31
        rw [es_] at I hA
        subst e_
        try clear q31
        refine lv_iload X.1 X.2.1 dL_each_108 (lv_at hl 1 rfl) ?_
        refine ri_const X (v := 1) dL_each_110 ?_
        refine ri_add X (v := ((S15.1 61 0) + 1)) rfl dL_each_111 ?_
        refine rj_ne (tgt := 130) X (by omega) (by omega) dL_each_112 (by decide) (fun c32 => by exfalso; omega) (fun c32 => ?_)
        refine lv_aload_n X.1 X.2.1 dL_each_115 rfl (lv_at hl 3 rfl) ?_
        refine ri_push X (v := 8) (by decide) dL_each_116 ?_
        refine clx_i I (runV (As := [.int (iI 8)]) (rest := []) X (k_X9_count l G S25 8 (by omega) 600 hI.1) (gdC tb_470 (gdC tb_471 (gdC tb_472 (gdC tb_14 (gdC tb_473 gdB))))) ⟨ok_X9_count, ⟨Nat.le_of_ble_eq_true rfl, Nat.le_of_ble_eq_true rfl⟩, rfl, rfl⟩ (PreV.ofL I) rfl hl.1 rfl (Nat.le_of_ble_eq_true rfl) dL_each_118 ⟨Nat.zero_le _, Nat.zero_le _⟩) (fun _ _ q_ => f7_count q_) (fun r33 S34 H locs q35 I => ?_)
        have hA := AR_fr (f7_count q35) hA
        obtain ⟨e_, es_⟩ := cnt_8 q35
        rw [es_] at I hA
        subst e_
        try clear q35
        refine lv_iload X.1 X.2.1 dL_each_121 (lv_at hl 0 rfl) ?_
        refine rj_ne (tgt := 130) X (by omega) (by omega) dL_each_123 (by decide) (fun c36 => by exfalso; omega) (fun c36 => ?_)
        refine ri_const X (v := 1) dL_each_126 ?_
        refine lv_goto (tgt := 131) X.1 X.2.1 dL_each_127 (by decide) ?_
        refine lv_istore (lv' := [(6, .int (iI 1)), (10, .int (iI (S15.1 62 0))), (9, .int (iI (S15.1 61 0))), (8, .int (iI (SC T Y V ((n_ : Nat) : Int)))), (0, .ref (G.2.2 0)), (1, .ref (G.2.2 57)), (2, .ref (G.2.2 58)), (3, .ref (G.2.2 59)), (4, .int (iI (psb (PSs T Y V) (T 0).toNat))), (5, .int (iI (psb (fun y_ => ¬ SC T Y V y_ = -4) (T 0).toNat))), (7, .int (iI ((n_ : Nat) : Int)))]) X.1 X.2.1 dL_each_131 hl (by decide) rfl (fun ls hl => ?_)
        have hb_ := psb_sh (Pr := fun y_ => ¬ SC T Y V y_ = -4) (n := (T 0).toNat) (k := (n_ : Int)) (by omega)
        refine lv_iload X.1 X.2.1 dL_each_133 (lv_at hl 9 rfl) ?_
        refine lv_iload X.1 X.2.1 dL_each_135 (lv_at hl 10 rfl) ?_
        refine ri_shr X (by omega) (by omega) dL_each_137 ?_
        have t37 := shr_r (a := (psb (fun y_ => ¬ SC T Y V y_ = -4) (T 0).toNat)) (k := ((n_ : Nat) : Int)) (by omega)
        refine ri_const X (v := 1) dL_each_138 ?_
        refine ri_and1 X (by omega) dL_each_139 ?_
        refine ri_const X (v := 1) dL_each_140 ?_
        refine rj_ne (tgt := 201) X (by omega) (by omega) dL_each_141 (by decide) (fun c38 => ?_) (fun c38 => ?_)
        · skip
          have hs_ : SC T Y V (n_ : Int) = -4 := by
            by_cases z_ : SC T Y V (n_ : Int) = -4
            · exact z_
            · exact absurd (hb_.mpr ⟨by omega, z_⟩) (by assumption)
          refine lv_iload X.1 X.2.1 dL_each_201 (lv_at hl 0 rfl) ?_
          refine rz_eq (tgt := 238) X (by omega) dL_each_203 (by decide) (fun c39 => by exfalso; omega) (fun c39 => ?_)
          refine lv_iload X.1 X.2.1 dL_each_206 (lv_at hl 3 rfl) ?_
          refine ri_push X (v := (-4)) (by decide) dL_each_208 ?_
          refine rj_ne (tgt := 238) X (by omega) (by omega) dL_each_210 (by decide) (fun c40 => by exfalso; omega) (fun c40 => ?_)
          refine lv_aload_n X.1 X.2.1 dL_each_213 rfl (lv_at hl 4 rfl) ?_
          refine lv_iload X.1 X.2.1 dL_each_214 (lv_at hl 10 rfl) ?_
          refine clx_i I (runV (As := [.int (iI ((n_ : Nat) : Int))]) (rest := []) X (k_X9_ways l G S25 ((n_ : Nat) : Int) (by omega) 600 hI.1) (gdC tb_579 (gdC tb_580 (gdC tb_581 (gdC tb_14 (gdC tb_582 gdB))))) ⟨ok_X9_ways, ⟨Nat.le_of_ble_eq_true rfl, Nat.le_of_ble_eq_true rfl⟩, rfl, rfl⟩ (PreV.ofL I) rfl hl.1 rfl (Nat.le_of_ble_eq_true rfl) dL_each_216 ⟨Nat.zero_le _, Nat.zero_le _⟩) (fun _ _ q_ => f7_ways q_) (fun r41 S42 H locs q43 I => ?_)
          have hA := AR_fr (f7_ways q43) hA
          obtain ⟨e1_, e2_, hI⟩ := op_ways hT hV hI (by omega) ⟨by omega, by omega⟩ q43
          try clear q43
          refine rz_ne (tgt := 238) X (by omega) dL_each_219 (by decide) (fun c44 => by exfalso; omega) (fun c44 => ?_)
          refine lv_aload_n X.1 X.2.1 dL_each_222 rfl (lv_at hl 4 rfl) ?_
          refine lv_iload X.1 X.2.1 dL_each_223 (lv_at hl 10 rfl) ?_
          refine ri_const X (v := 0) dL_each_225 ?_
          refine clx_i I (runV (As := [.int (iI ((n_ : Nat) : Int)), .int (iI 0)]) (rest := []) X (k_X9_best l G S42 ((n_ : Nat) : Int) 0 (by omega) (by omega) 600 hI.1) (gdC tb_586 (gdC tb_587 (gdC tb_588 (gdC tb_14 (gdC tb_589 gdB))))) ⟨ok_X9_best, ⟨Nat.le_of_ble_eq_true rfl, Nat.le_of_ble_eq_true rfl⟩, rfl, rfl⟩ (PreV.ofL I) rfl hl.1 rfl (Nat.le_of_ble_eq_true rfl) dL_each_226 ⟨Nat.zero_le _, Nat.zero_le _⟩) (fun _ _ q_ => f7_best q_) (fun r45 S46 H locs q47 I => ?_)
          have hA := AR_fr (f7_best q47) hA
          obtain ⟨e1_, e2_, hI⟩ := op_best hT hV hI (by omega) ⟨by omega, by omega⟩ (by omega) q47
          try clear q47
          refine ri_push X (v := (-4)) (by decide) dL_each_229 ?_
          refine rj_ne (tgt := 238) X (by omega) (by omega) dL_each_231 (by decide) (fun c48 => by exfalso; omega) (fun c48 => ?_)
          refine ri_const X (v := 1) dL_each_234 ?_
          refine lv_goto (tgt := 239) X.1 X.2.1 dL_each_235 (by decide) ?_
          refine lv_istore (lv' := [(6, .int (iI 1)), (10, .int (iI (S15.1 62 0))), (9, .int (iI (S15.1 61 0))), (8, .int (iI (SC T Y V ((n_ : Nat) : Int)))), (0, .ref (G.2.2 0)), (1, .ref (G.2.2 57)), (2, .ref (G.2.2 58)), (3, .ref (G.2.2 59)), (4, .int (iI (psb (PSs T Y V) (T 0).toNat))), (5, .int (iI (psb (fun y_ => ¬ SC T Y V y_ = -4) (T 0).toNat))), (7, .int (iI ((n_ : Nat) : Int)))]) X.1 X.2.1 dL_each_239 hl (by decide) rfl (fun ls hl => ?_)
          refine ri_iinc X (k := 10) (v := (((n_ : Nat) : Int) + 1)) (lv' := [(7, .int (iI (((n_ : Nat) : Int) + 1))), (6, .int (iI 1)), (10, .int (iI (S15.1 62 0))), (9, .int (iI (S15.1 61 0))), (8, .int (iI (SC T Y V ((n_ : Nat) : Int)))), (0, .ref (G.2.2 0)), (1, .ref (G.2.2 57)), (2, .ref (G.2.2 58)), (3, .ref (G.2.2 59)), (4, .int (iI (psb (PSs T Y V) (T 0).toNat))), (5, .int (iI (psb (fun y_ => ¬ SC T Y V y_ = -4) (T 0).toNat)))]) rfl dL_each_241 hl rfl (by decide) rfl (fun ls hl => ?_)
          refine lv_goto (tgt := 54) X.1 X.2.1 dL_each_244 (by decide) ?_
          have hl : lv_has ls 11 [(7, .int (iI (((n_ + 1) : Nat) : Int))), (6, .int (iI 1)), (10, .int (iI (S15.1 62 0))), (9, .int (iI (S15.1 61 0))), (8, .int (iI (SC T Y V ((n_ : Nat) : Int)))), (0, .ref (G.2.2 0)), (1, .ref (G.2.2 57)), (2, .ref (G.2.2 58)), (3, .ref (G.2.2 59)), (4, .int (iI (psb (PSs T Y V) (T 0).toNat))), (5, .int (iI (psb (fun y_ => ¬ SC T Y V y_ = -4) (T 0).toNat)))] := by
            have e_ : (((n_ : Nat) : Int) + 1) = (((n_ + 1) : Nat) : Int) := (by omega)
            rw [← e_]; exact hl
          exact ih_54 (n_ + 1) S46 (by omega) (by omega) (hA) (LI_h hI (by omega)) _ _ I ls (lv_sub hl [5, 6, 7, 8, 9, 10, 1, 0] rfl)
        · skip
          have hs_ := (hb_.mp (by omega)).2
          have h0_ := SC_0 hT hV (i := (n_ : Int)) (by omega) hs_
          refine lv_iload X.1 X.2.1 dL_each_144 (lv_at hl 0 rfl) ?_
          refine rz_eq (tgt := 195) X (by omega) dL_each_146 (by decide) (fun c49 => by exfalso; omega) (fun c49 => ?_)
          refine lv_iload X.1 X.2.1 dL_each_149 (lv_at hl 3 rfl) ?_
          refine rz_lt (tgt := 195) X (by omega) dL_each_151 (by decide) (fun c50 => by exfalso; omega) (fun c50 => ?_)
          refine lv_aload_n X.1 X.2.1 dL_each_154 rfl (lv_at hl 4 rfl) ?_
          refine lv_iload X.1 X.2.1 dL_each_155 (lv_at hl 10 rfl) ?_
          refine clx_i I (runV (As := [.int (iI ((n_ : Nat) : Int))]) (rest := []) X (k_X9_ways l G S25 ((n_ : Nat) : Int) (by omega) 600 hI.1) (gdC tb_579 (gdC tb_580 (gdC tb_581 (gdC tb_14 (gdC tb_582 gdB))))) ⟨ok_X9_ways, ⟨Nat.le_of_ble_eq_true rfl, Nat.le_of_ble_eq_true rfl⟩, rfl, rfl⟩ (PreV.ofL I) rfl hl.1 rfl (Nat.le_of_ble_eq_true rfl) dL_each_157 ⟨Nat.zero_le _, Nat.zero_le _⟩) (fun _ _ q_ => f7_ways q_) (fun r51 S52 H locs q53 I => ?_)
          have hA := AR_fr (f7_ways q53) hA
          obtain ⟨e1_, e2_, hI⟩ := op_ways hT hV hI (by omega) ⟨by omega, by omega⟩ q53
          try clear q53
          refine rz_le (tgt := 195) X (by omega) dL_each_160 (by decide) (fun c54 => by exfalso; omega) (fun c54 => ?_)
          refine lv_aload_n X.1 X.2.1 dL_each_163 rfl (lv_at hl 4 rfl) ?_
          refine lv_aload_n X.1 X.2.1 dL_each_164 rfl (lv_at hl 5 rfl) ?_
          refine lv_aload_n X.1 X.2.1 dL_each_165 rfl (lv_at hl 6 rfl) ?_
          refine lv_iload X.1 X.2.1 dL_each_166 (lv_at hl 10 rfl) ?_
          refine lv_aload_n X.1 X.2.1 dL_each_168 rfl (lv_at hl 7 rfl) ?_
          refine cl_i I (runS (As := [.ref (G.2.2 0), .ref (G.2.2 57), .ref (G.2.2 58), .int (iI ((n_ : Nat) : Int)), .ref (G.2.2 59)]) (rest := []) X (k_L_worth l A G S52 T Y V HD PK B AG TK KP (h + 2 * n_ + 1 + 1) ((n_ : Nat) : Int) hA hT hV hI (by omega) (by omega) hs_) (gdC tb_585 gdB) tb_583 tb_584 tb_13 ⟨ok_L_worth, ⟨Nat.le_of_ble_eq_true rfl, Nat.le_of_ble_eq_true rfl⟩, rfl, rfl⟩ (PreS.of I) rfl hl.1 rfl (Nat.le_of_ble_eq_true rfl) dL_each_169 ⟨Nat.zero_le _, Nat.zero_le _⟩) (fun r55 S56 H locs q57 I => ?_)
          obtain ⟨e_, hI, hA⟩ := q57
          subst e_
          refine lv_iload X.1 X.2.1 dL_each_172 (lv_at hl 3 rfl) ?_
          refine rj_ne (tgt := 195) X (by omega) (by omega) dL_each_174 (by decide) (fun c58 => by exfalso; omega) (fun c58 => ?_)
          refine lv_aload_n X.1 X.2.1 dL_each_177 rfl (lv_at hl 4 rfl) ?_
          refine lv_iload X.1 X.2.1 dL_each_178 (lv_at hl 10 rfl) ?_
          refine lv_aload_n X.1 X.2.1 dL_each_180 rfl (lv_at hl 7 rfl) ?_
          refine ri_const X (v := 0) dL_each_181 ?_
          refine aL_lw X I (v := (V 0)) (hA.2.2.1 0) (by omega) dL_each_182 ?_
          refine clx_i I (runV (As := [.int (iI ((n_ : Nat) : Int)), .int (iI (V 0))]) (rest := []) X (k_X9_best l G S56 ((n_ : Nat) : Int) (V 0) (by omega) (by omega) 600 hI.1) (gdC tb_586 (gdC tb_587 (gdC tb_588 (gdC tb_14 (gdC tb_589 gdB))))) ⟨ok_X9_best, ⟨Nat.le_of_ble_eq_true rfl, Nat.le_of_ble_eq_true rfl⟩, rfl, rfl⟩ (PreV.ofL I) rfl hl.1 rfl (Nat.le_of_ble_eq_true rfl) dL_each_183 ⟨Nat.zero_le _, Nat.zero_le _⟩) (fun _ _ q_ => f7_best q_) (fun r59 S60 H locs q61 I => ?_)
          have hA := AR_fr (f7_best q61) hA
          obtain ⟨e1_, e2_, hI⟩ := op_best hT hV hI (by omega) ⟨by omega, by omega⟩ (by omega) q61
          try clear q61
          refine ri_push X (v := (-4)) (by decide) dL_each_186 ?_
          refine rj_ne (tgt := 195) X (by omega) (by omega) dL_each_188 (by decide) (fun c62 => by exfalso; omega) (fun c62 => ?_)
          refine ri_const X (v := 1) dL_each_191 ?_
          refine lv_goto (tgt := 196) X.1 X.2.1 dL_each_192 (by decide) ?_
          refine lv_istore (lv' := [(6, .int (iI 1)), (10, .int (iI (S15.1 62 0))), (9, .int (iI (S15.1 61 0))), (8, .int (iI (SC T Y V ((n_ : Nat) : Int)))), (0, .ref (G.2.2 0)), (1, .ref (G.2.2 57)), (2, .ref (G.2.2 58)), (3, .ref (G.2.2 59)), (4, .int (iI (psb (PSs T Y V) (T 0).toNat))), (5, .int (iI (psb (fun y_ => ¬ SC T Y V y_ = -4) (T 0).toNat))), (7, .int (iI ((n_ : Nat) : Int)))]) X.1 X.2.1 dL_each_196 hl (by decide) rfl (fun ls hl => ?_)
          refine lv_goto (tgt := 241) X.1 X.2.1 dL_each_198 (by decide) ?_
          refine ri_iinc X (k := 10) (v := (((n_ : Nat) : Int) + 1)) (lv' := [(7, .int (iI (((n_ : Nat) : Int) + 1))), (6, .int (iI 1)), (10, .int (iI (S15.1 62 0))), (9, .int (iI (S15.1 61 0))), (8, .int (iI (SC T Y V ((n_ : Nat) : Int)))), (0, .ref (G.2.2 0)), (1, .ref (G.2.2 57)), (2, .ref (G.2.2 58)), (3, .ref (G.2.2 59)), (4, .int (iI (psb (PSs T Y V) (T 0).toNat))), (5, .int (iI (psb (fun y_ => ¬ SC T Y V y_ = -4) (T 0).toNat)))]) rfl dL_each_241 hl rfl (by decide) rfl (fun ls hl => ?_)
          refine lv_goto (tgt := 54) X.1 X.2.1 dL_each_244 (by decide) ?_
          have hl : lv_has ls 11 [(7, .int (iI (((n_ + 1) : Nat) : Int))), (6, .int (iI 1)), (10, .int (iI (S15.1 62 0))), (9, .int (iI (S15.1 61 0))), (8, .int (iI (SC T Y V ((n_ : Nat) : Int)))), (0, .ref (G.2.2 0)), (1, .ref (G.2.2 57)), (2, .ref (G.2.2 58)), (3, .ref (G.2.2 59)), (4, .int (iI (psb (PSs T Y V) (T 0).toNat))), (5, .int (iI (psb (fun y_ => ¬ SC T Y V y_ = -4) (T 0).toNat)))] := by
            have e_ : (((n_ : Nat) : Int) + 1) = (((n_ + 1) : Nat) : Int) := (by omega)
            rw [← e_]; exact hl
          exact ih_54 (n_ + 1) S60 (by omega) (by omega) (hA) (LI_h hI (by omega)) _ _ I ls (lv_sub hl [5, 6, 7, 8, 9, 10, 1, 0] rfl)
  have hl : lv_has ls 11 [(7, .int (iI ((0 : Nat) : Int))), (6, .int (iI 1)), (5, .int (iI (psb (fun y_ => ¬ SC T Y V y_ = -4) (T 0).toNat))), (4, .int (iI (psb (PSs T Y V) (T 0).toNat))), (0, .ref (G.2.2 0)), (1, .ref (G.2.2 57)), (2, .ref (G.2.2 58)), (3, .ref (G.2.2 59))] := by
    have e_ : 0 = ((0 : Nat) : Int) := rfl
    rw [← e_]; exact hl
  exact lp_54 (10) 0 S5 (by omega) (by omega) (hA) (LI_h hI (by omega)) _ _ I ls (lv_sub hl [4, 5, 6, 7, 3, 2, 1, 0] rfl)
