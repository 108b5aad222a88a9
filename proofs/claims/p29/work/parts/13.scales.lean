theorem ok_X6_set : yX6_set.cls ≠ "java/lang/invoke/MethodHandle" ∧ yX6_set.cls ≠ "java/lang/invoke/VarHandle" ∧ (parseMethodDescriptor yX6_set.desc).map (fun d => d.parameters.length) = some 3 := ⟨by decide +kernel, by decide +kernel, by decide +kernel⟩
abbrev po_X6_set (S : St)  (x : Int) (u : Int) (z : Int) : St → Prop := fun S1 => S1 = (us (us (us S.1 53 x) 54 u) 55 z, S.2)
abbrev rm_X6_set : Room := ({ frames := 0, cells := 0, slots := 0, locals := 0 } : Room)
set_option maxRecDepth 100000 in
set_option maxHeartbeats 4000000 in
theorem k_X6_set (l : Launch) (G : Ge) (S : St)  (x : Int) (u : Int) (z : Int)   : Kv (KC G) l yX6_set cX6_set 4 rm_X6_set [.ref (G.2.2 5), .int (iI x), .int (iI u), .int (iI z)] S (po_X6_set S x u z) := by
  refine K_start (own := "NameSeeker$Scales") (by decide +kernel) rfl (Nat.le_of_ble_eq_true rfl) ?_
  intro p e s m args below meth c X hr hlk I ls hl
  have hl : lv_has ls 4 [(0, .ref (G.2.2 5)), (1, .int (iI x)), (2, .int (iI u)), (3, .int (iI z))] := hl
  refine lv_aload_n X.1 X.2.1 dX6_set_0 rfl (lv_at hl 0 rfl) ?_
  refine lv_iload_n X.1 X.2.1 dX6_set_1 rfl (lv_at hl 1 rfl) ?_
  refine pC_scales_beginning X I tb_118 dX6_set_2 (fun H locs I => ?_)
  have I : In (KC G) s s.heap H locs ((us S.1 53 x), S.2) := I
  refine lv_aload_n X.1 X.2.1 dX6_set_5 rfl (lv_at hl 0 rfl) ?_
  refine lv_iload_n X.1 X.2.1 dX6_set_6 rfl (lv_at hl 2 rfl) ?_
  refine pC_scales_row X I tb_120 dX6_set_7 (fun H locs I => ?_)
  have I : In (KC G) s s.heap H locs ((us (us S.1 53 x) 54 u), S.2) := I
  refine lv_aload_n X.1 X.2.1 dX6_set_10 rfl (lv_at hl 0 rfl) ?_
  refine lv_iload_n X.1 X.2.1 dX6_set_11 rfl (lv_at hl 3 rfl) ?_
  refine pC_scales_gap X I tb_122 dX6_set_12 (fun H locs I => ?_)
  have I : In (KC G) s s.heap H locs ((us (us (us S.1 53 x) 54 u) 55 z), S.2) := I
  exact rt_v X hr hlk I (by exact rfl) dX6_set_15

theorem ok_X6_setDefaults : yX6_setDefaults.cls ≠ "java/lang/invoke/MethodHandle" ∧ yX6_setDefaults.cls ≠ "java/lang/invoke/VarHandle" ∧ (parseMethodDescriptor yX6_setDefaults.desc).map (fun d => d.parameters.length) = some 0 := ⟨by decide +kernel, by decide +kernel, by decide +kernel⟩
abbrev po_X6_setDefaults (S : St)   : St → Prop := fun S1 => S1 = (us (us (us S.1 53 3) 54 2) 55 1, S.2)
abbrev rm_X6_setDefaults : Room := ({ frames := 1, cells := 0, slots := 0, locals := 23 } : Room)
set_option maxRecDepth 100000 in
set_option maxHeartbeats 4000000 in
theorem k_X6_setDefaults (l : Launch) (G : Ge) (S : St)     : Kv (KC G) l yX6_setDefaults cX6_setDefaults 1 rm_X6_setDefaults [.ref (G.2.2 5)] S (po_X6_setDefaults S) := by
  refine K_start (own := "NameSeeker$Scales") (by decide +kernel) rfl (Nat.le_of_ble_eq_true rfl) ?_
  intro p e s m args below meth c X hr hlk I ls hl
  have hl : lv_has ls 1 [(0, .ref (G.2.2 5))] := hl
  refine lv_aload_n X.1 X.2.1 dX6_setDefaults_0 rfl (lv_at hl 0 rfl) ?_
  refine ri_const X (v := 3) dX6_setDefaults_1 ?_
  refine ri_const X (v := 2) dX6_setDefaults_2 ?_
  refine ri_const X (v := 1) dX6_setDefaults_3 ?_
  refine cl_v I (runV (As := [.int (iI 3), .int (iI 2), .int (iI 1)]) (rest := []) X (k_X6_set l G S  3 2 1  ) (gdC tb_299 (gdC tb_300 (gdC tb_301 (gdC tb_18 (gdC tb_302 gdB))))) ⟨ok_X6_set, ⟨Nat.le_of_ble_eq_true rfl, Nat.le_of_ble_eq_true rfl⟩, rfl, rfl⟩ (PreV.of (C := RX6) (T := TX6) (N := 3) I (atC_scales) rfl) rfl hl.1 rfl (Nat.le_of_ble_eq_true rfl) dX6_setDefaults_4 ⟨Nat.zero_le _, Nat.zero_le _⟩) (fun S2 H locs q3 I => ?_)
  rw [q3] at I
  have I : In (KC G) s s.heap H locs ((us (us (us S.1 53 3) 54 2) 55 1), S.2) := I
  exact rt_v X hr hlk I (by exact rfl) dX6_setDefaults_7

theorem ok_X6_ofPlace : yX6_ofPlace.cls ≠ "java/lang/invoke/MethodHandle" ∧ yX6_ofPlace.cls ≠ "java/lang/invoke/VarHandle" ∧ (parseMethodDescriptor yX6_ofPlace.desc).map (fun d => d.parameters.length) = some 2 := ⟨by decide +kernel, by decide +kernel, by decide +kernel⟩
abbrev po_X6_ofPlace (S : St) (j : Nat) (q : Int) (bg : Int) (kd : Int) (b_ : Int) : Int → St → Prop := fun r S1 => r = opl bg kd b_ q ∧ S1 = S
abbrev rm_X6_ofPlace : Room := ({ frames := 0, cells := 0, slots := 0, locals := 0 } : Room)
set_option maxRecDepth 100000 in
set_option maxHeartbeats 4000000 in
theorem k_X6_ofPlace (l : Launch) (G : Ge) (S : St) (j : Nat) (q : Int) (bg : Int) (kd : Int) (b_ : Int) (e_bg : S.1 6 (j : Int) = bg) (e_kd : S.1 3 (j : Int) = kd) (e_b_ : S.1 53 0 = b_) (hj : j < 8) (hq : 0 ≤ q ∧ q < 12) (hk : 0 ≤ kd ∧ kd ≤ 3) (hb : 0 ≤ bg ∧ bg < 2147483648) (hB : 0 ≤ b_ ∧ b_ ≤ 9) : Ki (KC G) l yX6_ofPlace cX6_ofPlace 4 .int rm_X6_ofPlace [.ref (G.2.2 5), .ref (G.2.2 (41 + 2 * j)), .int (iI q)] S (po_X6_ofPlace S j q bg kd b_) := by
  refine K_start (own := "NameSeeker$Scales") (by decide +kernel) rfl (Nat.le_of_ble_eq_true rfl) ?_
  intro p e s m args below meth c X hr hlk I ls hl
  have hl : lv_has ls 4 [(0, .ref (G.2.2 5)), (1, .ref (G.2.2 (41 + 2 * j))), (2, .int (iI q))] := hl
  refine lv_aload_n X.1 X.2.1 dX6_ofPlace_0 rfl (lv_at hl 1 rfl) ?_
  refine gC_name_beginnings X I (j := j) hj (v := bg) e_bg tb_79 dX6_ofPlace_1 ?_
  refine ri_const X (v := 1) dX6_ofPlace_4 ?_
  refine lv_iload_n X.1 X.2.1 dX6_ofPlace_5 rfl (lv_at hl 2 rfl) ?_
  refine ri_shl X (by omega) dX6_ofPlace_6 ?_
  have t1 := pw_r (k := q) (by omega)
  refine ri_and X (by omega) (by omega) dX6_ofPlace_7 ?_
  have t2 := band_r bg (b := (pw q)) (by omega)
  refine rz_ne (tgt := 14) X (by omega) dX6_ofPlace_8 (by decide) (fun c3 => ?_) (fun c3 => ?_)
  · skip
    refine lv_aload_n X.1 X.2.1 dX6_ofPlace_14 rfl (lv_at hl 1 rfl) ?_
    refine gC_name_kind X I (j := j) hj (v := kd) e_kd tb_71 dX6_ofPlace_15 ?_
    refine ri_const X (v := 2) dX6_ofPlace_18 ?_
    refine rj_ne (tgt := 30) X (by omega) (by omega) dX6_ofPlace_19 (by decide) (fun c4 => ?_) (fun c4 => ?_)
    · skip
      refine ri_const X (v := 0) dX6_ofPlace_30 ?_
      refine lv_istore_n (lv' := [(3, .int (iI 0)), (0, .ref (G.2.2 5)), (1, .ref (G.2.2 (41 + 2 * j))), (2, .int (iI q))]) X.1 X.2.1 dX6_ofPlace_31 rfl hl (by decide) rfl (fun ls hl => ?_)
      refine ri_push X (v := 50) (by decide) dX6_ofPlace_32 ?_
      refine lv_iload_n X.1 X.2.1 dX6_ofPlace_34 rfl (lv_at hl 0 rfl) ?_
      refine rz_eq (tgt := 47) X (by omega) dX6_ofPlace_35 (by decide) (fun _ => ?_) (fun c5 => absurd c5 (fun q => q (by decide)))
      refine lv_aload_n X.1 X.2.1 dX6_ofPlace_47 rfl (lv_at hl 1 rfl) ?_
      refine gC_scales_beginning X I (v := b_) e_b_ tb_118 dX6_ofPlace_48 ?_
      refine ri_add X (v := (50 + b_)) rfl dX6_ofPlace_51 ?_
      exact rt_i X hr hlk I rfl (by first | (refine ⟨?_, rfl⟩; unfold opl; first | rw [if_pos (by omega)] | rw [if_neg (by omega), if_pos (by omega)] | rw [if_neg (by omega), if_neg (by omega)]; done) | (exfalso; omega)) dX6_ofPlace_52
    · skip
      refine lv_iload_n X.1 X.2.1 dX6_ofPlace_22 rfl (lv_at hl 2 rfl) ?_
      refine rz_ne (tgt := 30) X (by omega) dX6_ofPlace_23 (by decide) (fun c6 => ?_) (fun c6 => ?_)
      · skip
        refine ri_const X (v := 0) dX6_ofPlace_30 ?_
        refine lv_istore_n (lv' := [(3, .int (iI 0)), (0, .ref (G.2.2 5)), (1, .ref (G.2.2 (41 + 2 * j))), (2, .int (iI q))]) X.1 X.2.1 dX6_ofPlace_31 rfl hl (by decide) rfl (fun ls hl => ?_)
        refine ri_push X (v := 50) (by decide) dX6_ofPlace_32 ?_
        refine lv_iload_n X.1 X.2.1 dX6_ofPlace_34 rfl (lv_at hl 0 rfl) ?_
        refine rz_eq (tgt := 47) X (by omega) dX6_ofPlace_35 (by decide) (fun _ => ?_) (fun c7 => absurd c7 (fun q => q (by decide)))
        refine lv_aload_n X.1 X.2.1 dX6_ofPlace_47 rfl (lv_at hl 1 rfl) ?_
        refine gC_scales_beginning X I (v := b_) e_b_ tb_118 dX6_ofPlace_48 ?_
        refine ri_add X (v := (50 + b_)) rfl dX6_ofPlace_51 ?_
        exact rt_i X hr hlk I rfl (by first | (refine ⟨?_, rfl⟩; unfold opl; first | rw [if_pos (by omega)] | rw [if_neg (by omega), if_pos (by omega)] | rw [if_neg (by omega), if_neg (by omega)]; done) | (exfalso; omega)) dX6_ofPlace_52
      · skip
        refine ri_const X (v := 1) dX6_ofPlace_26 ?_
        refine lv_goto (tgt := 31) X.1 X.2.1 dX6_ofPlace_27 (by decide) ?_
        refine lv_istore_n (lv' := [(3, .int (iI 1)), (0, .ref (G.2.2 5)), (1, .ref (G.2.2 (41 + 2 * j))), (2, .int (iI q))]) X.1 X.2.1 dX6_ofPlace_31 rfl hl (by decide) rfl (fun ls hl => ?_)
        refine ri_push X (v := 50) (by decide) dX6_ofPlace_32 ?_
        refine lv_iload_n X.1 X.2.1 dX6_ofPlace_34 rfl (lv_at hl 0 rfl) ?_
        refine rz_eq (tgt := 47) X (by omega) dX6_ofPlace_35 (by decide) (fun c8 => absurd c8 (by decide)) (fun _ => ?_)
        refine ri_const X (v := 2) dX6_ofPlace_38 ?_
        refine lv_aload_n X.1 X.2.1 dX6_ofPlace_39 rfl (lv_at hl 1 rfl) ?_
        refine gC_scales_beginning X I (v := b_) e_b_ tb_118 dX6_ofPlace_40 ?_
        refine ri_mul X (v := (2 * b_)) rfl dX6_ofPlace_43 ?_
        refine lv_goto (tgt := 51) X.1 X.2.1 dX6_ofPlace_44 (by decide) ?_
        refine ri_add X (v := (50 + (2 * b_))) rfl dX6_ofPlace_51 ?_
        exact rt_i X hr hlk I rfl (by first | (refine ⟨?_, rfl⟩; unfold opl; first | rw [if_pos (by omega)] | rw [if_neg (by omega), if_pos (by omega)] | rw [if_neg (by omega), if_neg (by omega)]; done) | (exfalso; omega)) dX6_ofPlace_52
  · skip
    refine ri_push X (v := 50) (by decide) dX6_ofPlace_11 ?_
    exact rt_i X hr hlk I rfl (by first | (refine ⟨?_, rfl⟩; unfold opl; first | rw [if_pos (by omega)] | rw [if_neg (by omega), if_pos (by omega)] | rw [if_neg (by omega), if_neg (by omega)]; done) | (exfalso; omega)) dX6_ofPlace_13

theorem ok_X6_ofStep : yX6_ofStep.cls ≠ "java/lang/invoke/MethodHandle" ∧ yX6_ofStep.cls ≠ "java/lang/invoke/VarHandle" ∧ (parseMethodDescriptor yX6_ofStep.desc).map (fun d => d.parameters.length) = some 3 := ⟨by decide +kernel, by decide +kernel, by decide +kernel⟩
abbrev po_X6_ofStep (S : St) (j : Nat) (q : Int) (x : Int) (kd : Int) (r_ : Int) (g_ : Int) : Int → St → Prop := fun r S1 => r = ost kd r_ g_ q x ∧ S1 = S
abbrev rm_X6_ofStep : Room := ({ frames := 0, cells := 0, slots := 0, locals := 0 } : Room)
set_option maxRecDepth 100000 in
set_option maxHeartbeats 4000000 in
theorem k_X6_ofStep (l : Launch) (G : Ge) (S : St) (j : Nat) (q : Int) (x : Int) (kd : Int) (r_ : Int) (g_ : Int) (e_kd : S.1 3 (j : Int) = kd) (e_r_ : S.1 54 0 = r_) (e_g_ : S.1 55 0 = g_) (hj : j < 8) (hq : 0 ≤ q ∧ q < 12) (hx : 0 ≤ x ∧ x < 12) (hk : 0 ≤ kd ∧ kd ≤ 3) (hR : 0 ≤ r_ ∧ r_ ≤ 9) (hG : 0 ≤ g_ ∧ g_ ≤ 9) : Ki (KC G) l yX6_ofStep cX6_ofStep 4 .int rm_X6_ofStep [.ref (G.2.2 5), .ref (G.2.2 (41 + 2 * j)), .int (iI q), .int (iI x)] S (po_X6_ofStep S j q x kd r_ g_) := by
  refine K_start (own := "NameSeeker$Scales") (by decide +kernel) rfl (Nat.le_of_ble_eq_true rfl) ?_
  intro p e s m args below meth c X hr hlk I ls hl
  have hl : lv_has ls 4 [(0, .ref (G.2.2 5)), (1, .ref (G.2.2 (41 + 2 * j))), (2, .int (iI q)), (3, .int (iI x))] := hl
  refine lv_iload_n X.1 X.2.1 dX6_ofStep_0 rfl (lv_at hl 3 rfl) ?_
  refine lv_iload_n X.1 X.2.1 dX6_ofStep_1 rfl (lv_at hl 2 rfl) ?_
  refine ri_const X (v := 1) dX6_ofStep_2 ?_
  refine ri_add X (v := (q + 1)) rfl dX6_ofStep_3 ?_
  refine rj_ne (tgt := 12) X (by omega) (by omega) dX6_ofStep_4 (by decide) (fun c1 => ?_) (fun c1 => ?_)
  · skip
    refine lv_aload_n X.1 X.2.1 dX6_ofStep_12 rfl (lv_at hl 1 rfl) ?_
    refine gC_name_kind X I (j := j) hj (v := kd) e_kd tb_71 dX6_ofStep_13 ?_
    refine ri_const X (v := 3) dX6_ofStep_16 ?_
    refine rj_ne (tgt := 24) X (by omega) (by omega) dX6_ofStep_17 (by decide) (fun c2 => ?_) (fun c2 => ?_)
    · skip
      refine lv_aload_n X.1 X.2.1 dX6_ofStep_24 rfl (lv_at hl 0 rfl) ?_
      refine gC_scales_gap X I (v := g_) e_g_ tb_122 dX6_ofStep_25 ?_
      refine ri_neg X (v := (-g_)) rfl dX6_ofStep_28 ?_
      refine lv_iload_n X.1 X.2.1 dX6_ofStep_29 rfl (lv_at hl 3 rfl) ?_
      refine lv_iload_n X.1 X.2.1 dX6_ofStep_30 rfl (lv_at hl 2 rfl) ?_
      refine ri_sub X (v := (x - q)) rfl dX6_ofStep_31 ?_
      refine ri_const X (v := 1) dX6_ofStep_32 ?_
      refine ri_sub X (v := ((x - q) - 1)) rfl dX6_ofStep_33 ?_
      refine ri_mul X (v := ((-g_) * ((x - q) - 1))) rfl dX6_ofStep_34 ?_
      exact rt_i X hr hlk I rfl (by first | (refine ⟨?_, rfl⟩; unfold ost; first | rw [if_pos (by omega)] | rw [if_neg (by omega), if_pos (by omega)] | rw [if_neg (by omega), if_neg (by omega)]; done) | (exfalso; omega)) dX6_ofStep_35
    · skip
      refine ri_const X (v := 0) dX6_ofStep_20 ?_
      refine lv_goto (tgt := 35) X.1 X.2.1 dX6_ofStep_21 (by decide) ?_
      exact rt_i X hr hlk I rfl (by first | (refine ⟨?_, rfl⟩; unfold ost; first | rw [if_pos (by omega)] | rw [if_neg (by omega), if_pos (by omega)] | rw [if_neg (by omega), if_neg (by omega)]; done) | (exfalso; omega)) dX6_ofStep_35
  · skip
    refine lv_aload_n X.1 X.2.1 dX6_ofStep_7 rfl (lv_at hl 0 rfl) ?_
    refine gC_scales_row X I (v := r_) e_r_ tb_120 dX6_ofStep_8 ?_
    exact rt_i X hr hlk I rfl (by first | (refine ⟨?_, rfl⟩; unfold ost; first | rw [if_pos (by omega)] | rw [if_neg (by omega), if_pos (by omega)] | rw [if_neg (by omega), if_neg (by omega)]; done) | (exfalso; omega)) dX6_ofStep_11
