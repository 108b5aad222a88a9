/-! the law's small methods -/
theorem lowv_q (v : Int) : v ≤ lowv v ∧ lowv v ≤ v + 32 := by unfold lowv; split <;> omega
theorem ok_L_sign : yL_sign.cls ≠ "java/lang/invoke/MethodHandle" ∧ yL_sign.cls ≠ "java/lang/invoke/VarHandle" ∧ (parseMethodDescriptor yL_sign.desc).map (fun d => d.parameters.length) = some 3 := ⟨by decide +kernel, by decide +kernel, by decide +kernel⟩
abbrev po_L_sign (S : St) (Y : Int → Int) (i k : Int) : Int → St → Prop := fun r S1 => r = sgv (Y i) k ∧ S1 = S
abbrev rm_L_sign : Room := ({ frames := 0, cells := 0, slots := 0, locals := 0 } : Room)
set_option maxRecDepth 100000 in
set_option maxHeartbeats 4000000 in
theorem k_L_sign (l : Launch) (A : Nat → Prop) (G : Ge) (S : St) (T Y V HD : Int → Int) (i k : Int) (hA : AR T Y V HD S) (hi : 0 ≤ i ∧ i < 8) (hk : 0 ≤ k ∧ k < 13) (hx : 0 ≤ Y i ∧ Y i < 68719476736) : Ki (KL A G) l yL_sign cL_sign 4 .int rm_L_sign [.ref (G.2.2 58), .int (iI i), .int (iI k)] S (po_L_sign S Y i k) := by
  refine K_start (own := "NameSeekerLaw") (by decide +kernel) rfl (Nat.le_of_ble_eq_true rfl) ?_
  intro p e s m args below meth c X hr hlk I ls hl
  have hl : lv_has ls 4 [(0, .ref (G.2.2 58)), (1, .int (iI i)), (2, .int (iI k))] := hl
  refine lv_aload_n X.1 X.2.1 dL_sign_0 rfl (lv_at hl 0 rfl) ?_
  refine lv_iload_n X.1 X.2.1 dL_sign_1 rfl (lv_at hl 1 rfl) ?_
  refine aL_lx X I (v := (Y i)) (hA.2.1 i) (by omega) dL_sign_2 ?_
  refine ri_const X (v := 3) dL_sign_3 ?_
  refine lv_iload_n X.1 X.2.1 dL_sign_4 rfl (lv_at hl 2 rfl) ?_
  refine ri_mul X (v := (3 * k)) rfl dL_sign_5 ?_
  refine rl_shr X (by omega) (by omega) dL_sign_6 ?_
  refine ri_l2i X dL_sign_7 ?_
  refine ri_push X (v := 7) (by decide) dL_sign_8 ?_
  refine ri_and7 X (shr_0 _ _) dL_sign_10 ?_
  refine lv_istore_n (lv' := [(3, .int (iI ((shr (Y i) (3 * k)) % 8))), (0, .ref (G.2.2 58)), (1, .int (iI i)), (2, .int (iI k))]) X.1 X.2.1 dL_sign_11 rfl hl (by decide) rfl (fun ls hl => ?_)
  have hv : 0 ≤ shr (Y i) (3 * k) % 8 ∧ shr (Y i) (3 * k) % 8 < 8 := by omega
  refine lv_iload_n X.1 X.2.1 dL_sign_12 rfl (lv_at hl 0 rfl) ?_
  refine ri_const X (v := 3) dL_sign_13 ?_
  refine rj_ge (tgt := 24) X (by omega) (by omega) dL_sign_14 (by decide) (fun c1 => ?_) (fun c1 => ?_)
  · skip
    refine lv_iload_n X.1 X.2.1 dL_sign_24 rfl (lv_at hl 0 rfl) ?_
    refine ri_push X (v := 6) (by decide) dL_sign_25 ?_
    refine rj_ge (tgt := 37) X (by omega) (by omega) dL_sign_27 (by decide) (fun c2 => ?_) (fun c2 => ?_)
    · skip
      refine lv_iload_n X.1 X.2.1 dL_sign_37 rfl (lv_at hl 0 rfl) ?_
      refine ri_push X (v := 6) (by decide) dL_sign_38 ?_
      refine rj_ne (tgt := 48) X (by omega) (by omega) dL_sign_40 (by decide) (fun c3 => ?_) (fun c3 => ?_)
      · skip
        refine ri_push X (v := 122) (by decide) dL_sign_48 ?_
        exact rt_i X hr hlk I rfl (⟨by unfold sgv sg8; (repeat' split) <;> omega, rfl⟩) dL_sign_50
      · skip
        refine ri_push X (v := 95) (by decide) dL_sign_43 ?_
        refine lv_goto (tgt := 50) X.1 X.2.1 dL_sign_45 (by decide) ?_
        exact rt_i X hr hlk I rfl (⟨by unfold sgv sg8; (repeat' split) <;> omega, rfl⟩) dL_sign_50
    · skip
      refine ri_push X (v := 62) (by decide) dL_sign_30 ?_
      refine lv_iload_n X.1 X.2.1 dL_sign_32 rfl (lv_at hl 0 rfl) ?_
      refine ri_add X (v := (62 + ((shr (Y i) (3 * k)) % 8))) rfl dL_sign_33 ?_
      refine lv_goto (tgt := 50) X.1 X.2.1 dL_sign_34 (by decide) ?_
      exact rt_i X hr hlk I rfl (⟨by unfold sgv sg8; (repeat' split) <;> omega, rfl⟩) dL_sign_50
  · skip
    refine ri_push X (v := 97) (by decide) dL_sign_17 ?_
    refine lv_iload_n X.1 X.2.1 dL_sign_19 rfl (lv_at hl 0 rfl) ?_
    refine ri_add X (v := (97 + ((shr (Y i) (3 * k)) % 8))) rfl dL_sign_20 ?_
    refine lv_goto (tgt := 50) X.1 X.2.1 dL_sign_21 (by decide) ?_
    exact rt_i X hr hlk I rfl (⟨by unfold sgv sg8; (repeat' split) <;> omega, rfl⟩) dL_sign_50

theorem ok_L_letter : yL_letter.cls ≠ "java/lang/invoke/MethodHandle" ∧ yL_letter.cls ≠ "java/lang/invoke/VarHandle" ∧ (parseMethodDescriptor yL_letter.desc).map (fun d => d.parameters.length) = some 1 := ⟨by decide +kernel, by decide +kernel, by decide +kernel⟩
abbrev po_L_letter (S : St) (v : Int) : Int → St → Prop := fun r S1 => r = lt8 v ∧ S1 = S
abbrev rm_L_letter : Room := ({ frames := 0, cells := 0, slots := 0, locals := 0 } : Room)
set_option maxRecDepth 100000 in
set_option maxHeartbeats 4000000 in
theorem k_L_letter (l : Launch) (A : Nat → Prop) (G : Ge) (S : St) (v : Int) (hv : 0 ≤ v ∧ v < 8) : Ki (KL A G) l yL_letter cL_letter 1 .int rm_L_letter [.int (iI v)] S (po_L_letter S v) := by
  refine K_start (own := "NameSeekerLaw") (by decide +kernel) rfl (Nat.le_of_ble_eq_true rfl) ?_
  intro p e s m args below meth c X hr hlk I ls hl
  have hl : lv_has ls 1 [(0, .int (iI v))] := hl
  refine lv_iload_n X.1 X.2.1 dL_letter_0 rfl (lv_at hl 0 rfl) ?_
  refine ri_const X (v := 3) dL_letter_1 ?_
  refine rj_ge (tgt := 12) X (by omega) (by omega) dL_letter_2 (by decide) (fun c1 => ?_) (fun c1 => ?_)
  · skip
    refine lv_iload_n X.1 X.2.1 dL_letter_12 rfl (lv_at hl 0 rfl) ?_
    refine ri_push X (v := 6) (by decide) dL_letter_13 ?_
    refine rj_ge (tgt := 25) X (by omega) (by omega) dL_letter_15 (by decide) (fun c2 => ?_) (fun c2 => ?_)
    · skip
      refine lv_iload_n X.1 X.2.1 dL_letter_25 rfl (lv_at hl 0 rfl) ?_
      refine ri_push X (v := 6) (by decide) dL_letter_26 ?_
      refine rj_ne (tgt := 36) X (by omega) (by omega) dL_letter_28 (by decide) (fun c3 => ?_) (fun c3 => ?_)
      · skip
        refine ri_push X (v := 122) (by decide) dL_letter_36 ?_
        exact rt_i X hr hlk I rfl (⟨by unfold lt8; (repeat' split) <;> omega, rfl⟩) dL_letter_38
      · skip
        refine ri_push X (v := 100) (by decide) dL_letter_31 ?_
        refine lv_goto (tgt := 38) X.1 X.2.1 dL_letter_33 (by decide) ?_
        exact rt_i X hr hlk I rfl (⟨by unfold lt8; (repeat' split) <;> omega, rfl⟩) dL_letter_38
    · skip
      refine ri_push X (v := 62) (by decide) dL_letter_18 ?_
      refine lv_iload_n X.1 X.2.1 dL_letter_20 rfl (lv_at hl 0 rfl) ?_
      refine ri_add X (v := (62 + v)) rfl dL_letter_21 ?_
      refine lv_goto (tgt := 38) X.1 X.2.1 dL_letter_22 (by decide) ?_
      exact rt_i X hr hlk I rfl (⟨by unfold lt8; (repeat' split) <;> omega, rfl⟩) dL_letter_38
  · skip
    refine ri_push X (v := 97) (by decide) dL_letter_5 ?_
    refine lv_iload_n X.1 X.2.1 dL_letter_7 rfl (lv_at hl 0 rfl) ?_
    refine ri_add X (v := (97 + v)) rfl dL_letter_8 ?_
    refine lv_goto (tgt := 38) X.1 X.2.1 dL_letter_9 (by decide) ?_
    exact rt_i X hr hlk I rfl (⟨by unfold lt8; (repeat' split) <;> omega, rfl⟩) dL_letter_38

theorem ok_L_low : yL_low.cls ≠ "java/lang/invoke/MethodHandle" ∧ yL_low.cls ≠ "java/lang/invoke/VarHandle" ∧ (parseMethodDescriptor yL_low.desc).map (fun d => d.parameters.length) = some 1 := ⟨by decide +kernel, by decide +kernel, by decide +kernel⟩
abbrev po_L_low (S : St) (v : Int) : Int → St → Prop := fun r S1 => r = lowv v ∧ S1 = S
abbrev rm_L_low : Room := ({ frames := 0, cells := 0, slots := 0, locals := 0 } : Room)
set_option maxRecDepth 100000 in
set_option maxHeartbeats 4000000 in
theorem k_L_low (l : Launch) (A : Nat → Prop) (G : Ge) (S : St) (v : Int) (hv : 0 ≤ v ∧ v < 256) : Ki (KL A G) l yL_low cL_low 1 .int rm_L_low [.int (iI v)] S (po_L_low S v) := by
  refine K_start (own := "NameSeekerLaw") (by decide +kernel) rfl (Nat.le_of_ble_eq_true rfl) ?_
  intro p e s m args below meth c X hr hlk I ls hl
  have hl : lv_has ls 1 [(0, .int (iI v))] := hl
  refine lv_iload_n X.1 X.2.1 dL_low_0 rfl (lv_at hl 0 rfl) ?_
  refine ri_push X (v := 65) (by decide) dL_low_1 ?_
  refine rj_lt (tgt := 19) X (by omega) (by omega) dL_low_3 (by decide) (fun c1 => ?_) (fun c1 => ?_)
  · skip
    refine lv_iload_n X.1 X.2.1 dL_low_19 rfl (lv_at hl 0 rfl) ?_
    exact rt_i X hr hlk I rfl (⟨by unfold lowv; split <;> omega, rfl⟩) dL_low_20
  · skip
    refine lv_iload_n X.1 X.2.1 dL_low_6 rfl (lv_at hl 0 rfl) ?_
    refine ri_push X (v := 90) (by decide) dL_low_7 ?_
    refine rj_gt (tgt := 19) X (by omega) (by omega) dL_low_9 (by decide) (fun c2 => ?_) (fun c2 => ?_)
    · skip
      refine lv_iload_n X.1 X.2.1 dL_low_19 rfl (lv_at hl 0 rfl) ?_
      exact rt_i X hr hlk I rfl (⟨by unfold lowv; split <;> omega, rfl⟩) dL_low_20
    · skip
      refine lv_iload_n X.1 X.2.1 dL_low_12 rfl (lv_at hl 0 rfl) ?_
      refine ri_push X (v := 32) (by decide) dL_low_13 ?_
      refine ri_add X (v := (v + 32)) rfl dL_low_15 ?_
      refine lv_goto (tgt := 20) X.1 X.2.1 dL_low_16 (by decide) ?_
      exact rt_i X hr hlk I rfl (⟨by unfold lowv; split <;> omega, rfl⟩) dL_low_20

theorem ok_L_writes : yL_writes.cls ≠ "java/lang/invoke/MethodHandle" ∧ yL_writes.cls ≠ "java/lang/invoke/VarHandle" ∧ (parseMethodDescriptor yL_writes.desc).map (fun d => d.parameters.length) = some 2 := ⟨by decide +kernel, by decide +kernel, by decide +kernel⟩
abbrev po_L_writes (T Y V HD : Int → Int) (g : Int → Int) (B AG TK h sm L1 : Int) : Int → St → Prop := fun r S1 => r = 1 ∧ LB B AG TK h sm S1 ∧ WR g L1 S1 ∧ AR T Y V HD S1
abbrev rm_L_writes : Room := ({ frames := 2, cells := 0, slots := 0, locals := 42 } : Room)
set_option maxRecDepth 100000 in
set_option maxHeartbeats 4000000 in
theorem k_L_writes (l : Launch) (A : Nat → Prop) (G : Ge) (S : St) (T Y V HD : Int → Int) (g : Int → Int) (B AG TK h sm L L1 u : Int) (hA : AR T Y V HD S) (hI : LB B AG TK h sm S) (hw : WR g L S) (hL : L < 200) (hL1 : L + 1 = L1) (hu : 32 ≤ u ∧ u ≤ 126) (hg : g L = u) : Ki (KL A G) l yL_writes cL_writes 2 .boolean rm_L_writes [.ref (G.2.2 0), .int (iI u)] S (po_L_writes T Y V HD g B AG TK h sm L1) := by
  refine K_start (own := "NameSeekerLaw") (by decide +kernel) rfl (Nat.le_of_ble_eq_true rfl) ?_
  intro p e s m args below meth c X hr hlk I ls hl
  have hl : lv_has ls 2 [(0, .ref (G.2.2 0)), (1, .int (iI u))] := hl
  refine lv_aload_n X.1 X.2.1 dL_writes_0 rfl (lv_at hl 0 rfl) ?_
  refine lv_iload_n X.1 X.2.1 dL_writes_1 rfl (lv_at hl 1 rfl) ?_
  refine clx_i I (runV (As := [.int (iI u)]) (rest := []) X (k_X9_write l G S u (by omega) 600 hI.1) (gdC tb_504 (gdC tb_505 (gdC tb_506 (gdC tb_14 (gdC tb_507 gdB))))) ⟨ok_X9_write, ⟨Nat.le_of_ble_eq_true rfl, Nat.le_of_ble_eq_true rfl⟩, rfl, rfl⟩ (PreV.ofL I) rfl hl.1 rfl (Nat.le_of_ble_eq_true rfl) dL_writes_2 ⟨Nat.zero_le _, Nat.zero_le _⟩) (fun _ _ q_ => f7_write q_) (fun r1 S2 H locs q3 I => ?_)
  have hA := AR_fr (f7_write q3) hA
  obtain ⟨e1_, e2_, hI, hw⟩ := op_write hI hw hL hu hg q3
  try clear q3
  refine rz_le (tgt := 12) X (by omega) dL_writes_5 (by decide) (fun c4 => by exfalso; omega) (fun c4 => ?_)
  refine ri_const X (v := 1) dL_writes_8 ?_
  refine lv_goto (tgt := 13) X.1 X.2.1 dL_writes_9 (by decide) ?_
  exact rt_i X hr hlk I (by rfl) (⟨rfl, hI, hL1 ▸ hw, hA⟩) dL_writes_13

theorem ok_L_alike : yL_alike.cls ≠ "java/lang/invoke/MethodHandle" ∧ yL_alike.cls ≠ "java/lang/invoke/VarHandle" ∧ (parseMethodDescriptor yL_alike.desc).map (fun d => d.parameters.length) = some 5 := ⟨by decide +kernel, by decide +kernel, by decide +kernel⟩
abbrev po_L_alike (S : St) (T Y : Int → Int) (i k u : Int) : Int → St → Prop := fun r S1 => r = bI (alk (SG Y i k) (T (9 + i)) u) ∧ S1 = S
abbrev rm_L_alike : Room := ({ frames := 1, cells := 0, slots := 0, locals := 23 } : Room)
set_option maxRecDepth 100000 in
set_option maxHeartbeats 4000000 in
theorem k_L_alike (l : Launch) (A : Nat → Prop) (G : Ge) (S : St) (T Y V HD : Int → Int) (i k u : Int) (hA : AR T Y V HD S) (hi : 0 ≤ i ∧ i < 8) (hk : 0 ≤ k ∧ k < 13) (hx : 0 ≤ Y i ∧ Y i < 68719476736) (ht : 0 ≤ T (9 + i) ∧ T (9 + i) ≤ 3) (hu : ltr u) : Ki (KL A G) l yL_alike cL_alike 6 .boolean rm_L_alike [.ref (G.2.2 57), .ref (G.2.2 58), .int (iI i), .int (iI k), .int (iI u)] S (po_L_alike S T Y i k u) := by
  refine K_start (own := "NameSeekerLaw") (by decide +kernel) rfl (Nat.le_of_ble_eq_true rfl) ?_
  intro p e s m args below meth c X hr hlk I ls hl
  have hl : lv_has ls 6 [(0, .ref (G.2.2 57)), (1, .ref (G.2.2 58)), (2, .int (iI i)), (3, .int (iI k)), (4, .int (iI u))] := hl
  have hu2 : (97 ≤ u ∧ u ≤ 122) ∨ (65 ≤ u ∧ u ≤ 90) := hu
  have ek : alk (SG Y i k) (T (9 + i)) u ↔ (if T (9 + i) = 1 then sgv (Y i) k = u else lowv (sgv (Y i) k) = lowv u) := alk_low (kd := T (9 + i)) (sgv_s (Y i) k) hu
  refine lv_aload_n X.1 X.2.1 dL_alike_0 rfl (lv_at hl 1 rfl) ?_
  refine lv_iload_n X.1 X.2.1 dL_alike_1 rfl (lv_at hl 2 rfl) ?_
  refine lv_iload_n X.1 X.2.1 dL_alike_2 rfl (lv_at hl 3 rfl) ?_
  refine cl_i I (runS (As := [.ref (G.2.2 58), .int (iI i), .int (iI k)]) (rest := []) X (k_L_sign l A G S T Y V HD i k hA (by omega) (by omega) (by omega)) (gdC tb_510 gdB) tb_508 tb_509 tb_13 ⟨ok_L_sign, ⟨Nat.le_of_ble_eq_true rfl, Nat.le_of_ble_eq_true rfl⟩, rfl, rfl⟩ (PreS.of I) rfl hl.1 rfl (Nat.le_of_ble_eq_true rfl) dL_alike_3 ⟨Nat.zero_le _, Nat.zero_le _⟩) (fun r1 S2 H locs q3 I => ?_)
  obtain ⟨e_, es_⟩ := q3
  rw [es_] at I
  subst e_
  have g4 := sgv_s (Y i) (k)
  unfold sgn at g4
  refine lv_istore (lv' := [(5, .int (iI (sgv (Y i) k))), (0, .ref (G.2.2 57)), (1, .ref (G.2.2 58)), (2, .int (iI i)), (3, .int (iI k)), (4, .int (iI u))]) X.1 X.2.1 dL_alike_6 hl (by decide) rfl (fun ls hl => ?_)
  refine lv_aload_n X.1 X.2.1 dL_alike_8 rfl (lv_at hl 1 rfl) ?_
  refine ri_push X (v := 9) (by decide) dL_alike_9 ?_
  refine lv_iload_n X.1 X.2.1 dL_alike_11 rfl (lv_at hl 3 rfl) ?_
  refine ri_add X (v := (9 + i)) rfl dL_alike_12 ?_
  refine aL_lt X I (v := (T (9 + i))) (hA.1 (9 + i)) (by omega) dL_alike_13 ?_
  refine ri_const X (v := 1) dL_alike_14 ?_
  refine rj_ne (tgt := 33) X (by omega) (by omega) dL_alike_15 (by decide) (fun c5 => ?_) (fun c5 => ?_)
  · skip
    refine lv_iload X.1 X.2.1 dL_alike_33 (lv_at hl 0 rfl) ?_
    refine cl_i I (runS (As := [.int (iI (sgv (Y i) k))]) (rest := []) X (k_L_low l A G S (sgv (Y i) k) (by omega)) (gdC tb_599 gdB) tb_597 tb_598 tb_13 ⟨ok_L_low, ⟨Nat.le_of_ble_eq_true rfl, Nat.le_of_ble_eq_true rfl⟩, rfl, rfl⟩ (PreS.of I) rfl hl.1 rfl (Nat.le_of_ble_eq_true rfl) dL_alike_35 ⟨Nat.zero_le _, Nat.zero_le _⟩) (fun r6 S7 H locs q8 I => ?_)
    obtain ⟨e_, es_⟩ := q8
    rw [es_] at I
    subst e_
    have g9 := lowv_q (sgv (Y i) k)
    refine lv_iload X.1 X.2.1 dL_alike_38 (lv_at hl 5 rfl) ?_
    refine cl_i I (runS (As := [.int (iI u)]) (rest := [.int (iI (lowv (sgv (Y i) k)))]) X (k_L_low l A G S u (by omega)) (gdC tb_599 gdB) tb_597 tb_598 tb_13 ⟨ok_L_low, ⟨Nat.le_of_ble_eq_true rfl, Nat.le_of_ble_eq_true rfl⟩, rfl, rfl⟩ (PreS.of I) rfl hl.1 rfl (Nat.le_of_ble_eq_true rfl) dL_alike_40 ⟨Nat.zero_le _, Nat.zero_le _⟩) (fun r10 S11 H locs q12 I => ?_)
    obtain ⟨e_, es_⟩ := q12
    rw [es_] at I
    subst e_
    have g13 := lowv_q u
    refine rj_ne (tgt := 50) X (by omega) (by omega) dL_alike_43 (by decide) (fun c14 => ?_) (fun c14 => ?_)
    · skip
      refine ri_const X (v := 0) dL_alike_50 ?_
      exact rt_i X hr hlk I (by rfl) (⟨(bI_f (fun z_ => by have z2_ := ek.mp z_; split at z2_ <;> omega)).symm, rfl⟩) dL_alike_51
    · skip
      refine ri_const X (v := 1) dL_alike_46 ?_
      refine lv_goto (tgt := 51) X.1 X.2.1 dL_alike_47 (by decide) ?_
      exact rt_i X hr hlk I (by rfl) (⟨(bI_t (ek.mpr (by split <;> omega))).symm, rfl⟩) dL_alike_51
  · skip
    refine lv_iload X.1 X.2.1 dL_alike_18 (lv_at hl 0 rfl) ?_
    refine lv_iload X.1 X.2.1 dL_alike_20 (lv_at hl 5 rfl) ?_
    refine rj_ne (tgt := 29) X (by omega) (by omega) dL_alike_22 (by decide) (fun c15 => ?_) (fun c15 => ?_)
    · skip
      refine ri_const X (v := 0) dL_alike_29 ?_
      refine lv_goto (tgt := 51) X.1 X.2.1 dL_alike_30 (by decide) ?_
      exact rt_i X hr hlk I (by rfl) (⟨(bI_f (fun z_ => by have z2_ := ek.mp z_; split at z2_ <;> omega)).symm, rfl⟩) dL_alike_51
    · skip
      refine ri_const X (v := 1) dL_alike_25 ?_
      refine lv_goto (tgt := 51) X.1 X.2.1 dL_alike_26 (by decide) ?_
      exact rt_i X hr hlk I (by rfl) (⟨(bI_t (ek.mpr (by split <;> omega))).symm, rfl⟩) dL_alike_51

theorem ok_L_isBeginning : yL_isBeginning.cls ≠ "java/lang/invoke/MethodHandle" ∧ yL_isBeginning.cls ≠ "java/lang/invoke/VarHandle" ∧ (parseMethodDescriptor yL_isBeginning.desc).map (fun d => d.parameters.length) = some 3 := ⟨by decide +kernel, by decide +kernel, by decide +kernel⟩
abbrev po_L_isBeginning (S : St) (Y : Int → Int) (i k : Int) : Int → St → Prop := fun r S1 => r = bI (bgP (SG Y i) k) ∧ S1 = S
abbrev rm_L_isBeginning : Room := ({ frames := 1, cells := 0, slots := 0, locals := 23 } : Room)
set_option maxRecDepth 100000 in
set_option maxHeartbeats 4000000 in
theorem k_L_isBeginning (l : Launch) (A : Nat → Prop) (G : Ge) (S : St) (T Y V HD : Int → Int) (i k : Int) (hA : AR T Y V HD S) (hi : 0 ≤ i ∧ i < 8) (hk : 0 ≤ k ∧ k < 13) (hx : 0 ≤ Y i ∧ Y i < 68719476736) : Ki (KL A G) l yL_isBeginning cL_isBeginning 5 .boolean rm_L_isBeginning [.ref (G.2.2 58), .int (iI i), .int (iI k)] S (po_L_isBeginning S Y i k) := by
  refine K_start (own := "NameSeekerLaw") (by decide +kernel) rfl (Nat.le_of_ble_eq_true rfl) ?_
  intro p e s m args below meth c X hr hlk I ls hl
  have hl : lv_has ls 5 [(0, .ref (G.2.2 58)), (1, .int (iI i)), (2, .int (iI k))] := hl
  refine lv_aload_n X.1 X.2.1 dL_isBeginning_0 rfl (lv_at hl 0 rfl) ?_
  refine lv_iload_n X.1 X.2.1 dL_isBeginning_1 rfl (lv_at hl 1 rfl) ?_
  refine lv_iload_n X.1 X.2.1 dL_isBeginning_2 rfl (lv_at hl 2 rfl) ?_
  refine cl_i I (runS (As := [.ref (G.2.2 58), .int (iI i), .int (iI k)]) (rest := []) X (k_L_sign l A G S T Y V HD i k hA (by omega) (by omega) (by omega)) (gdC tb_510 gdB) tb_508 tb_509 tb_13 ⟨ok_L_sign, ⟨Nat.le_of_ble_eq_true rfl, Nat.le_of_ble_eq_true rfl⟩, rfl, rfl⟩ (PreS.of I) rfl hl.1 rfl (Nat.le_of_ble_eq_true rfl) dL_isBeginning_3 ⟨Nat.zero_le _, Nat.zero_le _⟩) (fun r1 S2 H locs q3 I => ?_)
  obtain ⟨e_, es_⟩ := q3
  rw [es_] at I
  subst e_
  have g4 := sgv_s (Y i) (k)
  unfold sgn at g4
  refine lv_istore_n (lv' := [(3, .int (iI (sgv (Y i) k))), (0, .ref (G.2.2 58)), (1, .int (iI i)), (2, .int (iI k))]) X.1 X.2.1 dL_isBeginning_6 rfl hl (by decide) rfl (fun ls hl => ?_)
  refine lv_iload_n X.1 X.2.1 dL_isBeginning_7 rfl (lv_at hl 3 rfl) ?_
  refine rz_ne (tgt := 16) X (by omega) dL_isBeginning_8 (by decide) (fun c5 => ?_) (fun c5 => ?_)
  · skip
    refine lv_aload_n X.1 X.2.1 dL_isBeginning_16 rfl (lv_at hl 1 rfl) ?_
    refine lv_iload_n X.1 X.2.1 dL_isBeginning_17 rfl (lv_at hl 2 rfl) ?_
    refine lv_iload_n X.1 X.2.1 dL_isBeginning_18 rfl (lv_at hl 3 rfl) ?_
    refine ri_const X (v := 1) dL_isBeginning_19 ?_
    refine ri_sub X (v := (k - 1)) rfl dL_isBeginning_20 ?_
    refine cl_i I (runS (As := [.ref (G.2.2 58), .int (iI i), .int (iI (k - 1))]) (rest := []) X (k_L_sign l A G S T Y V HD i (k - 1) hA (by omega) (by omega) (by omega)) (gdC tb_510 gdB) tb_508 tb_509 tb_13 ⟨ok_L_sign, ⟨Nat.le_of_ble_eq_true rfl, Nat.le_of_ble_eq_true rfl⟩, rfl, rfl⟩ (PreS.of I) rfl hl.1 rfl (Nat.le_of_ble_eq_true rfl) dL_isBeginning_21 ⟨Nat.zero_le _, Nat.zero_le _⟩) (fun r6 S7 H locs q8 I => ?_)
    obtain ⟨e_, es_⟩ := q8
    rw [es_] at I
    subst e_
    have g9 := sgv_s (Y i) ((k - 1))
    unfold sgn at g9
    refine lv_istore (lv' := [(4, .int (iI (sgv (Y i) (k - 1)))), (3, .int (iI (sgv (Y i) k))), (0, .ref (G.2.2 58)), (1, .int (iI i)), (2, .int (iI k))]) X.1 X.2.1 dL_isBeginning_24 hl (by decide) rfl (fun ls hl => ?_)
    refine lv_iload_n X.1 X.2.1 dL_isBeginning_26 rfl (lv_at hl 1 rfl) ?_
    refine ri_push X (v := 95) (by decide) dL_isBeginning_27 ?_
    refine rj_eq (tgt := 56) X (by omega) (by omega) dL_isBeginning_29 (by decide) (fun c10 => ?_) (fun c10 => ?_)
    · skip
      refine ri_const X (v := 0) dL_isBeginning_56 ?_
      exact rt_i X hr hlk I (by rfl) (⟨(bI_f (fun z_ => by have z2_ := bgP_sg.mp z_; omega)).symm, rfl⟩) dL_isBeginning_57
    · skip
      refine lv_iload X.1 X.2.1 dL_isBeginning_32 (lv_at hl 0 rfl) ?_
      refine ri_push X (v := 95) (by decide) dL_isBeginning_34 ?_
      refine rj_eq (tgt := 52) X (by omega) (by omega) dL_isBeginning_36 (by decide) (fun c11 => ?_) (fun c11 => ?_)
      · skip
        refine ri_const X (v := 1) dL_isBeginning_52 ?_
        refine lv_goto (tgt := 57) X.1 X.2.1 dL_isBeginning_53 (by decide) ?_
        exact rt_i X hr hlk I (by rfl) (⟨(bI_t (bgP_sg.mpr (by omega))).symm, rfl⟩) dL_isBeginning_57
      · skip
        refine lv_iload_n X.1 X.2.1 dL_isBeginning_39 rfl (lv_at hl 1 rfl) ?_
        refine ri_push X (v := 91) (by decide) dL_isBeginning_40 ?_
        refine rj_ge (tgt := 56) X (by omega) (by omega) dL_isBeginning_42 (by decide) (fun c12 => ?_) (fun c12 => ?_)
        · skip
          refine ri_const X (v := 0) dL_isBeginning_56 ?_
          exact rt_i X hr hlk I (by rfl) (⟨(bI_f (fun z_ => by have z2_ := bgP_sg.mp z_; omega)).symm, rfl⟩) dL_isBeginning_57
        · skip
          refine lv_iload X.1 X.2.1 dL_isBeginning_45 (lv_at hl 0 rfl) ?_
          refine ri_push X (v := 96) (by decide) dL_isBeginning_47 ?_
          refine rj_le (tgt := 56) X (by omega) (by omega) dL_isBeginning_49 (by decide) (fun c13 => ?_) (fun c13 => ?_)
          · skip
            refine ri_const X (v := 0) dL_isBeginning_56 ?_
            exact rt_i X hr hlk I (by rfl) (⟨(bI_f (fun z_ => by have z2_ := bgP_sg.mp z_; omega)).symm, rfl⟩) dL_isBeginning_57
          · skip
            refine ri_const X (v := 1) dL_isBeginning_52 ?_
            refine lv_goto (tgt := 57) X.1 X.2.1 dL_isBeginning_53 (by decide) ?_
            exact rt_i X hr hlk I (by rfl) (⟨(bI_t (bgP_sg.mpr (by omega))).symm, rfl⟩) dL_isBeginning_57
  · skip
    refine ri_push X (v := 95) (by decide) dL_isBeginning_11 ?_
    refine lv_goto (tgt := 24) X.1 X.2.1 dL_isBeginning_13 (by decide) ?_
    refine lv_istore (lv' := [(4, .int (iI 95)), (3, .int (iI (sgv (Y i) k))), (0, .ref (G.2.2 58)), (1, .int (iI i)), (2, .int (iI k))]) X.1 X.2.1 dL_isBeginning_24 hl (by decide) rfl (fun ls hl => ?_)
    refine lv_iload_n X.1 X.2.1 dL_isBeginning_26 rfl (lv_at hl 1 rfl) ?_
    refine ri_push X (v := 95) (by decide) dL_isBeginning_27 ?_
    refine rj_eq (tgt := 56) X (by omega) (by omega) dL_isBeginning_29 (by decide) (fun c14 => ?_) (fun c14 => ?_)
    · skip
      refine ri_const X (v := 0) dL_isBeginning_56 ?_
      exact rt_i X hr hlk I (by rfl) (⟨(bI_f (fun z_ => by have z2_ := bgP_sg.mp z_; omega)).symm, rfl⟩) dL_isBeginning_57
    · skip
      refine lv_iload X.1 X.2.1 dL_isBeginning_32 (lv_at hl 0 rfl) ?_
      refine ri_push X (v := 95) (by decide) dL_isBeginning_34 ?_
      refine rj_eq (tgt := 52) X (by omega) (by omega) dL_isBeginning_36 (by decide) (fun c15 => ?_) (fun c15 => by exfalso; omega)
      refine ri_const X (v := 1) dL_isBeginning_52 ?_
      refine lv_goto (tgt := 57) X.1 X.2.1 dL_isBeginning_53 (by decide) ?_
      exact rt_i X hr hlk I (by rfl) (⟨(bI_t (bgP_sg.mpr (by omega))).symm, rfl⟩) dL_isBeginning_57

theorem ok_L_bits : yL_bits.cls ≠ "java/lang/invoke/MethodHandle" ∧ yL_bits.cls ≠ "java/lang/invoke/VarHandle" ∧ (parseMethodDescriptor yL_bits.desc).map (fun d => d.parameters.length) = some 1 := ⟨by decide +kernel, by decide +kernel, by decide +kernel⟩
abbrev po_L_bits (S : St) (v : Int) : Int → St → Prop := fun r S1 => r = cq (fun y_ => shr v y_ % 2 = 1) 8 ∧ S1 = S
abbrev rm_L_bits : Room := ({ frames := 0, cells := 0, slots := 0, locals := 0 } : Room)
set_option maxRecDepth 100000 in
set_option maxHeartbeats 4000000 in
theorem k_L_bits (l : Launch) (A : Nat → Prop) (G : Ge) (S : St) (v : Int) (hv : 0 ≤ v ∧ v < 2147483648) : Ki (KL A G) l yL_bits cL_bits 3 .int rm_L_bits [.int (iI v)] S (po_L_bits S v) := by
  refine K_start (own := "NameSeekerLaw") (by decide +kernel) rfl (Nat.le_of_ble_eq_true rfl) ?_
  intro p e s m args below meth c X hr hlk I ls hl
  have hl : lv_has ls 3 [(0, .int (iI v))] := hl
  refine ri_const X (v := 0) dL_bits_0 ?_
  refine lv_istore_n (lv' := [(1, .int (iI 0)), (0, .int (iI v))]) X.1 X.2.1 dL_bits_1 rfl hl (by decide) rfl (fun ls hl => ?_)
  refine ri_const X (v := 0) dL_bits_2 ?_
  refine lv_istore_n (lv' := [(2, .int (iI 0)), (1, .int (iI 0)), (0, .int (iI v))]) X.1 X.2.1 dL_bits_3 rfl hl (by decide) rfl (fun ls hl => ?_)
  have lp_4 : ∀ (fu_ : Nat) (n_ : Nat), 9 - n_ < fu_ → ∀ (hn : n_ ≤ 8) (H : Heap) (locs : List Loc), In (KL A G) s s.heap H locs S → ∀ ls : Array Slot, lv_has ls 3 [(0, .int (iI v)), (1, .int (iI (cq (fun y_ => shr v y_ % 2 = 1) n_))), (2, .int (iI ((n_ : Nat) : Int)))] → W p l e rm_L_bits s m args below meth c H locs 0 0 (MQ below (QI (KL A G) (po_L_bits S v)) args s 0 0 A) (F0 m 4 ls []) := by
    intro fu_
    induction fu_ with
    | zero => intro n_ hm; exact absurd hm (by omega)
    | succ fu_ ih_4 =>
      intro n_ hm_4 hn H locs I ls hl
      refine lv_iload_n X.1 X.2.1 dL_bits_4 rfl (lv_at hl 2 rfl) ?_
      refine ri_push X (v := 8) (by decide) dL_bits_5 ?_
      refine rj_ge (tgt := 24) X (by omega) (by omega) dL_bits_7 (by decide) (fun c1 => ?_) (fun c1 => ?_)
      · skip
        refine lv_iload_n X.1 X.2.1 dL_bits_24 rfl (lv_at hl 1 rfl) ?_
        exact rt_i X hr hlk I rfl (⟨by rw [show n_ = 8 by omega], rfl⟩) dL_bits_25
      · skip
        refine lv_iload_n X.1 X.2.1 dL_bits_10 rfl (lv_at hl 1 rfl) ?_
        refine lv_iload_n X.1 X.2.1 dL_bits_11 rfl (lv_at hl 0 rfl) ?_
        refine lv_iload_n X.1 X.2.1 dL_bits_12 rfl (lv_at hl 2 rfl) ?_
        refine ri_shr X (by omega) (by omega) dL_bits_13 ?_
        have t2 := shr_r (a := v) (k := ((n_ : Nat) : Int)) (by omega)
        refine ri_const X (v := 1) dL_bits_14 ?_
        refine ri_and1 X (by omega) dL_bits_15 ?_
        refine ri_add X (v := ((cq (fun y_ => shr v y_ % 2 = 1) n_) + ((shr v ((n_ : Nat) : Int)) % 2))) rfl dL_bits_16 ?_
        refine lv_istore_n (lv' := [(1, .int (iI ((cq (fun y_ => shr v y_ % 2 = 1) n_) + ((shr v ((n_ : Nat) : Int)) % 2)))), (0, .int (iI v)), (2, .int (iI ((n_ : Nat) : Int)))]) X.1 X.2.1 dL_bits_17 rfl hl (by decide) rfl (fun ls hl => ?_)
        refine ri_iinc X (k := 2) (v := (((n_ : Nat) : Int) + 1)) (lv' := [(2, .int (iI (((n_ : Nat) : Int) + 1))), (1, .int (iI ((cq (fun y_ => shr v y_ % 2 = 1) n_) + ((shr v ((n_ : Nat) : Int)) % 2)))), (0, .int (iI v))]) rfl dL_bits_18 hl rfl (by decide) rfl (fun ls hl => ?_)
        refine lv_goto (tgt := 4) X.1 X.2.1 dL_bits_21 (by decide) ?_
        have hl : lv_has ls 3 [(2, .int (iI (((n_ + 1) : Nat) : Int))), (1, .int (iI ((cq (fun y_ => shr v y_ % 2 = 1) n_) + ((shr v ((n_ : Nat) : Int)) % 2)))), (0, .int (iI v))] := by
          have e_ : (((n_ : Nat) : Int) + 1) = (((n_ + 1) : Nat) : Int) := (by omega)
          rw [← e_]; exact hl
        have hl : lv_has ls 3 [(2, .int (iI (((n_ + 1) : Nat) : Int))), (1, .int (iI (cq (fun y_ => shr v y_ % 2 = 1) (n_ + 1)))), (0, .int (iI v))] := by
          have e_ : ((cq (fun y_ => shr v y_ % 2 = 1) n_) + ((shr v ((n_ : Nat) : Int)) % 2)) = (cq (fun y_ => shr v y_ % 2 = 1) (n_ + 1)) := (bits_step v n_)
          rw [← e_]; exact hl
        exact ih_4 (n_ + 1) (by omega) (by omega) _ _ I ls (lv_sub hl [2, 1, 0] rfl)
  have hl : lv_has ls 3 [(2, .int (iI ((0 : Nat) : Int))), (1, .int (iI 0)), (0, .int (iI v))] := by
    have e_ : 0 = ((0 : Nat) : Int) := rfl
    rw [← e_]; exact hl
  have hl : lv_has ls 3 [(2, .int (iI ((0 : Nat) : Int))), (1, .int (iI (cq (fun y_ => shr v y_ % 2 = 1) 0))), (0, .int (iI v))] := by
    have e_ : 0 = (cq (fun y_ => shr v y_ % 2 = 1) 0) := rfl
    rw [← e_]; exact hl
  exact lp_4 (10) 0 (by omega) (by omega) _ _ I ls (lv_sub hl [2, 1, 0] rfl)
