theorem ok_X4_isAlike : yX4_isAlike.cls ≠ "java/lang/invoke/MethodHandle" ∧ yX4_isAlike.cls ≠ "java/lang/invoke/VarHandle" ∧ (parseMethodDescriptor yX4_isAlike.desc).map (fun d => d.parameters.length) = some 2 := ⟨by decide +kernel, by decide +kernel, by decide +kernel⟩
abbrev po_X4_isAlike (S : St) (j : Nat) (q : Int) (x : Int) (sg : Int) (kd : Int) : Int → St → Prop := fun r S1 => r = bI (alk sg kd x) ∧ S1 = S
abbrev rm_X4_isAlike : Room := ({ frames := 2, cells := 0, slots := 0, locals := 40 } : Room)
set_option maxRecDepth 100000 in
set_option maxHeartbeats 4000000 in
theorem k_X4_isAlike (l : Launch) (G : Ge) (S : St) (j : Nat) (q : Int) (x : Int) (sg : Int) (kd : Int) (e_sg : S.1 (20 + j) q = sg) (e_kd : S.1 3 (j : Int) = kd) (hj : j < 8) (hq : 0 ≤ q ∧ q < 12) (hx : 0 ≤ x ∧ x ≤ 65535) (hs : 0 ≤ sg ∧ sg ≤ 65535) (hk : 0 ≤ kd ∧ kd ≤ 3) : Ki (KC G) l yX4_isAlike cX4_isAlike 4 .boolean rm_X4_isAlike [.ref (G.2.2 (41 + 2 * j)), .int (iI q), .int (iI x)] S (po_X4_isAlike S j q x sg kd) := by
  refine K_start (own := "NameSeeker$Name") (by decide +kernel) rfl (Nat.le_of_ble_eq_true rfl) ?_
  intro p e s m args below meth c X hr hlk I ls hl
  have hl : lv_has ls 4 [(0, .ref (G.2.2 (41 + 2 * j))), (1, .int (iI q)), (2, .int (iI x))] := hl
  refine lv_aload_n X.1 X.2.1 dX4_isAlike_0 rfl (lv_at hl 0 rfl) ?_
  refine gC_name_signs X I (j := j) hj tb_65 dX4_isAlike_1 ?_
  refine lv_iload_n X.1 X.2.1 dX4_isAlike_4 rfl (lv_at hl 1 rfl) ?_
  refine aC_signs X I (j := j) (by omega) (v := sg) e_sg (by omega) dX4_isAlike_5 ?_
  refine lv_istore_n (lv' := [(3, .int (iI sg)), (0, .ref (G.2.2 (41 + 2 * j))), (1, .int (iI q)), (2, .int (iI x))]) X.1 X.2.1 dX4_isAlike_6 rfl hl (by decide) rfl (fun ls hl => ?_)
  refine lv_iload_n X.1 X.2.1 dX4_isAlike_7 rfl (lv_at hl 0 rfl) ?_
  refine lv_iload_n X.1 X.2.1 dX4_isAlike_8 rfl (lv_at hl 3 rfl) ?_
  refine rj_ne (tgt := 14) X (by omega) (by omega) dX4_isAlike_9 (by decide) (fun c1 => ?_) (fun c1 => ?_)
  · skip
    refine lv_aload_n X.1 X.2.1 dX4_isAlike_14 rfl (lv_at hl 1 rfl) ?_
    refine gC_name_kind X I (j := j) hj (v := kd) e_kd tb_70 dX4_isAlike_15 ?_
    refine ri_const X (v := 1) dX4_isAlike_18 ?_
    refine rj_eq (tgt := 44) X (by omega) (by omega) dX4_isAlike_19 (by decide) (fun c2 => ?_) (fun c2 => ?_)
    · skip
      refine ri_const X (v := 0) dX4_isAlike_44 ?_
      exact rt_i X hr hlk I (by rfl) (by refine ⟨(bI_f ?_).symm, rfl⟩; unfold alk; omega) dX4_isAlike_45
    · skip
      refine lv_iload_n X.1 X.2.1 dX4_isAlike_22 rfl (lv_at hl 0 rfl) ?_
      refine cl_i I (runSN (As := [.int (iI sg)]) (rest := []) X (k_X9_isLetter l G S  sg  (by omega)) (gdC tb_330 gdB) (I.2.2.2.2 _ (List.mem_of_getElem? (i := 0) rfl)) tb_329 tb_14 ⟨ok_X9_isLetter, ⟨Nat.le_of_ble_eq_true rfl, Nat.le_of_ble_eq_true rfl⟩, rfl, rfl⟩ (PreS.of I) rfl hl.1 rfl (Nat.le_of_ble_eq_true rfl) dX4_isAlike_23 ⟨Nat.zero_le _, Nat.zero_le _⟩) (fun r3 S4 H locs q5 I => ?_)
      obtain ⟨e1_, e2_⟩ := q5
      rw [e2_] at I
      rw [e1_]
      clear e1_ e2_
      rcases Decidable.em (((97 ≤ (sg) ∧ (sg) ≤ 122) ∨ (65 ≤ (sg) ∧ (sg) ≤ 90))) with b6 | b6
      · rw [bI_t b6]
        refine rz_eq (tgt := 44) X (by omega) dX4_isAlike_26 (by decide) (fun c7 => absurd c7 (by decide)) (fun _ => ?_)
        refine lv_iload_n X.1 X.2.1 dX4_isAlike_29 rfl (lv_at hl 0 rfl) ?_
        refine cl_i I (runSN (As := [.int (iI sg)]) (rest := []) X (k_X9_letterNumber l G S  sg  (by omega)) (gdC tb_350 gdB) (I.2.2.2.2 _ (List.mem_of_getElem? (i := 3) rfl)) tb_349 tb_14 ⟨ok_X9_letterNumber, ⟨Nat.le_of_ble_eq_true rfl, Nat.le_of_ble_eq_true rfl⟩, rfl, rfl⟩ (PreS.of I) rfl hl.1 rfl (Nat.le_of_ble_eq_true rfl) dX4_isAlike_30 ⟨Nat.zero_le _, Nat.zero_le _⟩) (fun r8 S9 H locs q10 I => ?_)
        obtain ⟨e1_, e2_⟩ := q10
        rw [e2_] at I
        rw [e1_]
        clear e1_ e2_
        have hn1 := lnum_r sg (by omega)
        refine lv_iload_n X.1 X.2.1 dX4_isAlike_33 rfl (lv_at hl 3 rfl) ?_
        refine cl_i I (runSN (As := [.int (iI x)]) (rest := [.int (iI (lnum sg))]) X (k_X9_letterNumber l G S  x  (by omega)) (gdC tb_350 gdB) (I.2.2.2.2 _ (List.mem_of_getElem? (i := 3) rfl)) tb_349 tb_14 ⟨ok_X9_letterNumber, ⟨Nat.le_of_ble_eq_true rfl, Nat.le_of_ble_eq_true rfl⟩, rfl, rfl⟩ (PreS.of I) rfl hl.1 rfl (Nat.le_of_ble_eq_true rfl) dX4_isAlike_34 ⟨Nat.zero_le _, Nat.zero_le _⟩) (fun r11 S12 H locs q13 I => ?_)
        obtain ⟨e1_, e2_⟩ := q13
        rw [e2_] at I
        rw [e1_]
        clear e1_ e2_
        have hn2 := lnum_r x (by omega)
        refine rj_ne (tgt := 44) X (by omega) (by omega) dX4_isAlike_37 (by decide) (fun c14 => ?_) (fun c14 => ?_)
        · skip
          refine ri_const X (v := 0) dX4_isAlike_44 ?_
          exact rt_i X hr hlk I (by rfl) (by refine ⟨(bI_f ?_).symm, rfl⟩; unfold alk; omega) dX4_isAlike_45
        · skip
          refine ri_const X (v := 1) dX4_isAlike_40 ?_
          refine lv_goto (tgt := 45) X.1 X.2.1 dX4_isAlike_41 (by decide) ?_
          exact rt_i X hr hlk I (by rfl) (by refine ⟨(bI_t ?_).symm, rfl⟩; unfold alk; omega) dX4_isAlike_45
      · rw [bI_f b6]
        refine rz_eq (tgt := 44) X (by omega) dX4_isAlike_26 (by decide) (fun _ => ?_) (fun c15 => absurd c15 (fun q => q (by decide)))
        refine ri_const X (v := 0) dX4_isAlike_44 ?_
        exact rt_i X hr hlk I (by rfl) (by refine ⟨(bI_f ?_).symm, rfl⟩; unfold alk; omega) dX4_isAlike_45
  · skip
    refine ri_const X (v := 1) dX4_isAlike_12 ?_
    exact rt_i X hr hlk I (by rfl) (by refine ⟨(bI_t ?_).symm, rfl⟩; unfold alk; omega) dX4_isAlike_13

theorem ok_X4_hasAll : yX4_hasAll.cls ≠ "java/lang/invoke/MethodHandle" ∧ yX4_hasAll.cls ≠ "java/lang/invoke/VarHandle" ∧ (parseMethodDescriptor yX4_hasAll.desc).map (fun d => d.parameters.length) = some 1 := ⟨by decide +kernel, by decide +kernel, by decide +kernel⟩
abbrev po_X4_hasAll (S : St) (j : Nat) (w : Nat) (m_ : Int) (f : Int → Int) (lb : Int) : Int → St → Prop := fun r S1 => r = bI (bandn (wlb f m_.toNat) lb = 0) ∧ S1 = S
abbrev rm_X4_hasAll : Room := ({ frames := 3, cells := 0, slots := 0, locals := 62 } : Room)
set_option maxRecDepth 100000 in
set_option maxHeartbeats 4000000 in
theorem k_X4_hasAll (l : Launch) (G : Ge) (S : St) (j : Nat) (w : Nat) (m_ : Int) (f : Int → Int) (lb : Int) (e_m_ : S.1 8 (w : Int) = m_) (e_f : ∀ i : Int, S.1 (16 + w) i = f i) (e_lb : S.1 7 (j : Int) = lb) (hj : j < 8) (hb : 0 ≤ lb ∧ lb < 2147483648) (hw : w < 4) (hz : 0 ≤ m_ ∧ m_ ≤ 6) (hL : ∀ i : Int, 0 ≤ i → i < m_ → ((97 ≤ f i ∧ f i ≤ 122) ∨ (65 ≤ f i ∧ f i ≤ 90))) : Ki (KC G) l yX4_hasAll cX4_hasAll 2 .boolean rm_X4_hasAll [.ref (G.2.2 (41 + 2 * j)), .ref (G.2.2 (6 + 2 * w))] S (po_X4_hasAll S j w m_ f lb) := by
  refine K_start (own := "NameSeeker$Name") (by decide +kernel) rfl (Nat.le_of_ble_eq_true rfl) ?_
  intro p e s m args below meth c X hr hlk I ls hl
  have hl : lv_has ls 2 [(0, .ref (G.2.2 (41 + 2 * j))), (1, .ref (G.2.2 (6 + 2 * w)))] := hl
  refine lv_aload_n X.1 X.2.1 dX4_hasAll_0 rfl (lv_at hl 1 rfl) ?_
  refine cl_i I (runV (As := []) (rest := []) X (k_X8_letterBits l G S (w) m_ (f) e_m_ (fun i_ => (e_f i_)) hw hz hL) (gdC tb_457 (gdC tb_458 (gdC tb_459 (gdC tb_19 (gdC tb_460 gdB))))) ⟨ok_X8_letterBits, ⟨Nat.le_of_ble_eq_true rfl, Nat.le_of_ble_eq_true rfl⟩, rfl, rfl⟩ (PreV.of (C := RX8) (T := TX8) (N := 2) I (atC_word (w := w) hw) rfl) rfl hl.1 rfl (Nat.le_of_ble_eq_true rfl) dX4_hasAll_1 ⟨Nat.zero_le _, Nat.zero_le _⟩) (fun r1 S2 H locs q3 I => ?_)
  obtain ⟨e1_, e2_⟩ := q3
  rw [e2_] at I
  rw [e1_]
  clear e1_ e2_
  have t4 := wlb_r (f) (m_).toNat (fun i h1 h2 => hL i h1 (by omega))
  refine lv_aload_n X.1 X.2.1 dX4_hasAll_4 rfl (lv_at hl 0 rfl) ?_
  refine gC_name_letterBits X I (j := j) hj (v := lb) e_lb tb_81 dX4_hasAll_5 ?_
  refine ri_andnot X (by omega) (by omega) dX4_hasAll_8 dX4_hasAll_9 dX4_hasAll_10 ?_
  have t5 := bandn_r (a := (wlb (f) (m_).toNat)) (b := lb) (by omega)
  refine rz_ne (tgt := 18) X (by omega) dX4_hasAll_11 (by decide) (fun c6 => ?_) (fun c6 => ?_)
  · skip
    refine ri_const X (v := 0) dX4_hasAll_18 ?_
    exact rt_i X hr hlk I (by rfl) (by refine ⟨(bI_f ?_).symm, rfl⟩; omega) dX4_hasAll_19
  · skip
    refine ri_const X (v := 1) dX4_hasAll_14 ?_
    refine lv_goto (tgt := 19) X.1 X.2.1 dX4_hasAll_15 (by decide) ?_
    exact rt_i X hr hlk I (by rfl) (by refine ⟨(bI_t ?_).symm, rfl⟩; omega) dX4_hasAll_19

theorem ok_X4_reset : yX4_reset.cls ≠ "java/lang/invoke/MethodHandle" ∧ yX4_reset.cls ≠ "java/lang/invoke/VarHandle" ∧ (parseMethodDescriptor yX4_reset.desc).map (fun d => d.parameters.length) = some 2 := ⟨by decide +kernel, by decide +kernel, by decide +kernel⟩
abbrev po_X4_reset (S : St) (j : Nat) (u : Int) (x : Int) : St → Prop := fun S1 => S1 = ((ua (ua (ua (ua (ua (ua S.1 2 (j : Int) 0) 3 (j : Int) u) 4 (j : Int) x) 5 (j : Int) 0) 6 (j : Int) 0) 7 (j : Int) 0), S.2)
abbrev rm_X4_reset : Room := ({ frames := 0, cells := 0, slots := 0, locals := 0 } : Room)
set_option maxRecDepth 100000 in
set_option maxHeartbeats 4000000 in
theorem k_X4_reset (l : Launch) (G : Ge) (S : St) (j : Nat) (u : Int) (x : Int)  (hj : j < 8) : Kv (KC G) l yX4_reset cX4_reset 3 rm_X4_reset [.ref (G.2.2 (41 + 2 * j)), .int (iI u), .int (iI x)] S (po_X4_reset S j u x) := by
  refine K_start (own := "NameSeeker$Name") (by decide +kernel) rfl (Nat.le_of_ble_eq_true rfl) ?_
  intro p e s m args below meth c X hr hlk I ls hl
  have hl : lv_has ls 3 [(0, .ref (G.2.2 (41 + 2 * j))), (1, .int (iI u)), (2, .int (iI x))] := hl
  refine lv_aload_n X.1 X.2.1 dX4_reset_0 rfl (lv_at hl 0 rfl) ?_
  refine ri_const X (v := 0) dX4_reset_1 ?_
  refine pC_name_size X I (j := j) hj tb_66 dX4_reset_2 (fun H locs I => ?_)
  have I : In (KC G) s s.heap H locs ((ua S.1 2 (j : Int) 0), S.2) := I
  refine lv_aload_n X.1 X.2.1 dX4_reset_5 rfl (lv_at hl 0 rfl) ?_
  refine lv_iload_n X.1 X.2.1 dX4_reset_6 rfl (lv_at hl 1 rfl) ?_
  refine pC_name_kind X I (j := j) hj tb_70 dX4_reset_7 (fun H locs I => ?_)
  have I : In (KC G) s s.heap H locs ((ua (ua S.1 2 (j : Int) 0) 3 (j : Int) u), S.2) := I
  refine lv_aload_n X.1 X.2.1 dX4_reset_10 rfl (lv_at hl 0 rfl) ?_
  refine lv_iload_n X.1 X.2.1 dX4_reset_11 rfl (lv_at hl 2 rfl) ?_
  refine pC_name_id X I (j := j) hj tb_73 dX4_reset_12 (fun H locs I => ?_)
  have I : In (KC G) s s.heap H locs ((ua (ua (ua S.1 2 (j : Int) 0) 3 (j : Int) u) 4 (j : Int) x), S.2) := I
  refine lv_aload_n X.1 X.2.1 dX4_reset_15 rfl (lv_at hl 0 rfl) ?_
  refine ri_const X (v := 0) dX4_reset_16 ?_
  refine pC_name_picked X I (j := j) hj tb_75 dX4_reset_17 (fun H locs I => ?_)
  have I : In (KC G) s s.heap H locs ((ua (ua (ua (ua S.1 2 (j : Int) 0) 3 (j : Int) u) 4 (j : Int) x) 5 (j : Int) 0), S.2) := I
  refine lv_aload_n X.1 X.2.1 dX4_reset_20 rfl (lv_at hl 0 rfl) ?_
  refine ri_const X (v := 0) dX4_reset_21 ?_
  refine pC_name_beginnings X I (j := j) hj tb_78 dX4_reset_22 (fun H locs I => ?_)
  have I : In (KC G) s s.heap H locs ((ua (ua (ua (ua (ua S.1 2 (j : Int) 0) 3 (j : Int) u) 4 (j : Int) x) 5 (j : Int) 0) 6 (j : Int) 0), S.2) := I
  refine lv_aload_n X.1 X.2.1 dX4_reset_25 rfl (lv_at hl 0 rfl) ?_
  refine ri_const X (v := 0) dX4_reset_26 ?_
  refine pC_name_letterBits X I (j := j) hj tb_81 dX4_reset_27 (fun H locs I => ?_)
  have I : In (KC G) s s.heap H locs ((ua (ua (ua (ua (ua (ua S.1 2 (j : Int) 0) 3 (j : Int) u) 4 (j : Int) x) 5 (j : Int) 0) 6 (j : Int) 0) 7 (j : Int) 0), S.2) := I
  exact rt_v X hr hlk I (by exact rfl) dX4_reset_30

theorem ok_X4_wouldBegin : yX4_wouldBegin.cls ≠ "java/lang/invoke/MethodHandle" ∧ yX4_wouldBegin.cls ≠ "java/lang/invoke/VarHandle" ∧ (parseMethodDescriptor yX4_wouldBegin.desc).map (fun d => d.parameters.length) = some 1 := ⟨by decide +kernel, by decide +kernel, by decide +kernel⟩
abbrev po_X4_wouldBegin (S : St) (j : Nat) (x : Int) : Int → St → Prop := fun r S1 => r = bI (((97 ≤ x ∧ x ≤ 122) ∨ (65 ≤ x ∧ x ≤ 90)) ∧ (S.1 2 (j : Int) = 0 ∨ S.1 (20 + j) (S.1 2 (j : Int) - 1) = 95 ∨ ((65 ≤ x ∧ x ≤ 90) ∧ (97 ≤ S.1 (20 + j) (S.1 2 (j : Int) - 1) ∧ S.1 (20 + j) (S.1 2 (j : Int) - 1) ≤ 122)))) ∧ S1 = S
abbrev rm_X4_wouldBegin : Room := ({ frames := 2, cells := 0, slots := 0, locals := 40 } : Room)
set_option maxRecDepth 100000 in
set_option maxHeartbeats 4000000 in
theorem k_X4_wouldBegin (l : Launch) (G : Ge) (S : St) (j : Nat) (x : Int)  (hj : j < 8) (hx : 0 ≤ x ∧ x ≤ 126) (hz : 0 ≤ S.1 2 (j : Int) ∧ S.1 2 (j : Int) < 12) (hs : ∀ i : Int, 0 ≤ i → i < S.1 2 (j : Int) → 0 ≤ S.1 (20 + j) i ∧ S.1 (20 + j) i ≤ 126) : Ki (KC G) l yX4_wouldBegin cX4_wouldBegin 3 .boolean rm_X4_wouldBegin [.ref (G.2.2 (41 + 2 * j)), .int (iI x)] S (po_X4_wouldBegin S j x) := by
  refine K_start (own := "NameSeeker$Name") (by decide +kernel) rfl (Nat.le_of_ble_eq_true rfl) ?_
  intro p e s m args below meth c X hr hlk I ls hl
  have hl : lv_has ls 3 [(0, .ref (G.2.2 (41 + 2 * j))), (1, .int (iI x))] := hl
  refine lv_aload_n X.1 X.2.1 dX4_wouldBegin_0 rfl (lv_at hl 0 rfl) ?_
  refine gC_name_size X I (j := j) hj (v := (S.1 2 (j : Int))) rfl tb_66 dX4_wouldBegin_1 ?_
  refine rz_eq (tgt := 14) X (by omega) dX4_wouldBegin_4 (by decide) (fun c1 => ?_) (fun c1 => ?_)
  · skip
    refine lv_iload_n X.1 X.2.1 dX4_wouldBegin_14 rfl (lv_at hl 1 rfl) ?_
    refine cl_i I (runSN (As := [.int (iI x)]) (rest := []) X (k_X9_isLetter l G S  x  (by omega)) (gdC tb_330 gdB) (I.2.2.2.2 _ (List.mem_of_getElem? (i := 0) rfl)) tb_329 tb_14 ⟨ok_X9_isLetter, ⟨Nat.le_of_ble_eq_true rfl, Nat.le_of_ble_eq_true rfl⟩, rfl, rfl⟩ (PreS.of I) rfl hl.1 rfl (Nat.le_of_ble_eq_true rfl) dX4_wouldBegin_15 ⟨Nat.zero_le _, Nat.zero_le _⟩) (fun r2 S3 H locs q4 I => ?_)
    obtain ⟨e1_, e2_⟩ := q4
    rw [e2_] at I
    rw [e1_]
    clear e1_ e2_
    rcases Decidable.em (((97 ≤ (x) ∧ (x) ≤ 122) ∨ (65 ≤ (x) ∧ (x) ≤ 90))) with b5 | b5
    · rw [bI_t b5]
      exact rt_i X hr hlk I (by rfl) (by refine ⟨(bI_t ?_).symm, rfl⟩; omega) dX4_wouldBegin_18
    · rw [bI_f b5]
      exact rt_i X hr hlk I (by rfl) (by refine ⟨(bI_f ?_).symm, rfl⟩; omega) dX4_wouldBegin_18
  · skip
    refine lv_iload_n X.1 X.2.1 dX4_wouldBegin_7 rfl (lv_at hl 1 rfl) ?_
    refine cl_i I (runSN (As := [.int (iI x)]) (rest := []) X (k_X9_isLetter l G S  x  (by omega)) (gdC tb_330 gdB) (I.2.2.2.2 _ (List.mem_of_getElem? (i := 0) rfl)) tb_329 tb_14 ⟨ok_X9_isLetter, ⟨Nat.le_of_ble_eq_true rfl, Nat.le_of_ble_eq_true rfl⟩, rfl, rfl⟩ (PreS.of I) rfl hl.1 rfl (Nat.le_of_ble_eq_true rfl) dX4_wouldBegin_8 ⟨Nat.zero_le _, Nat.zero_le _⟩) (fun r6 S7 H locs q8 I => ?_)
    obtain ⟨e1_, e2_⟩ := q8
    rw [e2_] at I
    rw [e1_]
    clear e1_ e2_
    rcases Decidable.em (((97 ≤ (x) ∧ (x) ≤ 122) ∨ (65 ≤ (x) ∧ (x) ≤ 90))) with b9 | b9
    · rw [bI_t b9]
      refine rz_ne (tgt := 19) X (by omega) dX4_wouldBegin_11 (by decide) (fun _ => ?_) (fun c10 => absurd c10 (by decide))
      have hsi := hs (S.1 2 (j : Int) - 1) (by omega) (by omega)
      refine lv_aload_n X.1 X.2.1 dX4_wouldBegin_19 rfl (lv_at hl 0 rfl) ?_
      refine gC_name_signs X I (j := j) hj tb_65 dX4_wouldBegin_20 ?_
      refine lv_aload_n X.1 X.2.1 dX4_wouldBegin_23 rfl (lv_at hl 0 rfl) ?_
      refine gC_name_size X I (j := j) hj (v := (S.1 2 (j : Int))) rfl tb_66 dX4_wouldBegin_24 ?_
      refine ri_const X (v := 1) dX4_wouldBegin_27 ?_
      refine ri_sub X (v := ((S.1 2 (j : Int)) - 1)) rfl dX4_wouldBegin_28 ?_
      refine aC_signs X I (j := j) (by omega) (v := (S.1 (20 + j) ((S.1 2 (j : Int)) - 1))) rfl (by omega) dX4_wouldBegin_29 ?_
      refine lv_istore_n (lv' := [(2, .int (iI (S.1 (20 + j) ((S.1 2 (j : Int)) - 1)))), (0, .ref (G.2.2 (41 + 2 * j))), (1, .int (iI x))]) X.1 X.2.1 dX4_wouldBegin_30 rfl hl (by decide) rfl (fun ls hl => ?_)
      refine lv_iload_n X.1 X.2.1 dX4_wouldBegin_31 rfl (lv_at hl 0 rfl) ?_
      refine ri_push X (v := 95) (by decide) dX4_wouldBegin_32 ?_
      refine rj_eq (tgt := 51) X (by omega) (by omega) dX4_wouldBegin_34 (by decide) (fun c11 => ?_) (fun c11 => ?_)
      · skip
        refine ri_const X (v := 1) dX4_wouldBegin_51 ?_
        refine lv_goto (tgt := 56) X.1 X.2.1 dX4_wouldBegin_52 (by decide) ?_
        exact rt_i X hr hlk I (by rfl) (by refine ⟨(bI_t ?_).symm, rfl⟩; omega) dX4_wouldBegin_56
      · skip
        refine lv_iload_n X.1 X.2.1 dX4_wouldBegin_37 rfl (lv_at hl 2 rfl) ?_
        refine cl_i I (runSN (As := [.int (iI x)]) (rest := []) X (k_X9_isGreat l G S  x  (by omega)) (gdC tb_336 gdB) (I.2.2.2.2 _ (List.mem_of_getElem? (i := 1) rfl)) tb_335 tb_14 ⟨ok_X9_isGreat, ⟨Nat.le_of_ble_eq_true rfl, Nat.le_of_ble_eq_true rfl⟩, rfl, rfl⟩ (PreS.of I) rfl hl.1 rfl (Nat.le_of_ble_eq_true rfl) dX4_wouldBegin_38 ⟨Nat.zero_le _, Nat.zero_le _⟩) (fun r12 S13 H locs q14 I => ?_)
        obtain ⟨e1_, e2_⟩ := q14
        rw [e2_] at I
        rw [e1_]
        clear e1_ e2_
        rcases Decidable.em ((65 ≤ (x) ∧ (x) ≤ 90)) with b15 | b15
        · rw [bI_t b15]
          refine rz_eq (tgt := 55) X (by omega) dX4_wouldBegin_41 (by decide) (fun c16 => absurd c16 (by decide)) (fun _ => ?_)
          refine lv_iload_n X.1 X.2.1 dX4_wouldBegin_44 rfl (lv_at hl 0 rfl) ?_
          refine cl_i I (runSN (As := [.int (iI (S.1 (20 + j) ((S.1 2 (j : Int)) - 1)))]) (rest := []) X (k_X9_isSmall l G S  (S.1 (20 + j) ((S.1 2 (j : Int)) - 1))  (by omega)) (gdC tb_333 gdB) (I.2.2.2.2 _ (List.mem_of_getElem? (i := 2) rfl)) tb_332 tb_14 ⟨ok_X9_isSmall, ⟨Nat.le_of_ble_eq_true rfl, Nat.le_of_ble_eq_true rfl⟩, rfl, rfl⟩ (PreS.of I) rfl hl.1 rfl (Nat.le_of_ble_eq_true rfl) dX4_wouldBegin_45 ⟨Nat.zero_le _, Nat.zero_le _⟩) (fun r17 S18 H locs q19 I => ?_)
          obtain ⟨e1_, e2_⟩ := q19
          rw [e2_] at I
          rw [e1_]
          clear e1_ e2_
          rcases Decidable.em ((97 ≤ ((S.1 (20 + j) ((S.1 2 (j : Int)) - 1))) ∧ ((S.1 (20 + j) ((S.1 2 (j : Int)) - 1))) ≤ 122)) with b20 | b20
          · rw [bI_t b20]
            refine rz_eq (tgt := 55) X (by omega) dX4_wouldBegin_48 (by decide) (fun c21 => absurd c21 (by decide)) (fun _ => ?_)
            refine ri_const X (v := 1) dX4_wouldBegin_51 ?_
            refine lv_goto (tgt := 56) X.1 X.2.1 dX4_wouldBegin_52 (by decide) ?_
            exact rt_i X hr hlk I (by rfl) (by refine ⟨(bI_t ?_).symm, rfl⟩; omega) dX4_wouldBegin_56
          · rw [bI_f b20]
            refine rz_eq (tgt := 55) X (by omega) dX4_wouldBegin_48 (by decide) (fun _ => ?_) (fun c22 => absurd c22 (fun q => q (by decide)))
            refine ri_const X (v := 0) dX4_wouldBegin_55 ?_
            exact rt_i X hr hlk I (by rfl) (by refine ⟨(bI_f ?_).symm, rfl⟩; omega) dX4_wouldBegin_56
        · rw [bI_f b15]
          refine rz_eq (tgt := 55) X (by omega) dX4_wouldBegin_41 (by decide) (fun _ => ?_) (fun c23 => absurd c23 (fun q => q (by decide)))
          refine ri_const X (v := 0) dX4_wouldBegin_55 ?_
          exact rt_i X hr hlk I (by rfl) (by refine ⟨(bI_f ?_).symm, rfl⟩; omega) dX4_wouldBegin_56
    · rw [bI_f b9]
      refine rz_ne (tgt := 19) X (by omega) dX4_wouldBegin_11 (by decide) (fun c24 => absurd c24 (by decide)) (fun _ => ?_)
      refine lv_iload_n X.1 X.2.1 dX4_wouldBegin_14 rfl (lv_at hl 1 rfl) ?_
      refine cl_i I (runSN (As := [.int (iI x)]) (rest := []) X (k_X9_isLetter l G S  x  (by omega)) (gdC tb_330 gdB) (I.2.2.2.2 _ (List.mem_of_getElem? (i := 0) rfl)) tb_329 tb_14 ⟨ok_X9_isLetter, ⟨Nat.le_of_ble_eq_true rfl, Nat.le_of_ble_eq_true rfl⟩, rfl, rfl⟩ (PreS.of I) rfl hl.1 rfl (Nat.le_of_ble_eq_true rfl) dX4_wouldBegin_15 ⟨Nat.zero_le _, Nat.zero_le _⟩) (fun r25 S26 H locs q27 I => ?_)
      obtain ⟨e1_, e2_⟩ := q27
      rw [e2_] at I
      rw [e1_]
      clear e1_ e2_
      rcases Decidable.em (((97 ≤ (x) ∧ (x) ≤ 122) ∨ (65 ≤ (x) ∧ (x) ≤ 90))) with b28 | b28
      · rw [bI_t b28]
        exact rt_i X hr hlk I (by rfl) (by refine ⟨(bI_t ?_).symm, rfl⟩; omega) dX4_wouldBegin_18
      · rw [bI_f b28]
        exact rt_i X hr hlk I (by rfl) (by refine ⟨(bI_f ?_).symm, rfl⟩; omega) dX4_wouldBegin_18

theorem ok_X4_addSign : yX4_addSign.cls ≠ "java/lang/invoke/MethodHandle" ∧ yX4_addSign.cls ≠ "java/lang/invoke/VarHandle" ∧ (parseMethodDescriptor yX4_addSign.desc).map (fun d => d.parameters.length) = some 1 := ⟨by decide +kernel, by decide +kernel, by decide +kernel⟩
abbrev po_X4_addSign (S : St) (j : Nat) (x : Int) : St → Prop := fun S1 => S1 = ((ua (ua (ua (ua S.1 6 (j : Int) (if (((97 ≤ x ∧ x ≤ 122) ∨ (65 ≤ x ∧ x ≤ 90)) ∧ (S.1 2 (j : Int) = 0 ∨ S.1 (20 + j) (S.1 2 (j : Int) - 1) = 95 ∨ ((65 ≤ x ∧ x ≤ 90) ∧ (97 ≤ S.1 (20 + j) (S.1 2 (j : Int) - 1) ∧ S.1 (20 + j) (S.1 2 (j : Int) - 1) ≤ 122)))) then bor (S.1 6 (j : Int)) (pw (S.1 2 (j : Int))) else S.1 6 (j : Int))) 7 (j : Int) (if ((97 ≤ x ∧ x ≤ 122) ∨ (65 ≤ x ∧ x ≤ 90)) then bor (S.1 7 (j : Int)) (pw (lnum x)) else S.1 7 (j : Int))) (20 + j) (S.1 2 (j : Int)) x) 2 (j : Int) (S.1 2 (j : Int) + 1)), S.2)
abbrev rm_X4_addSign : Room := ({ frames := 3, cells := 0, slots := 0, locals := 62 } : Room)
set_option maxRecDepth 100000 in
set_option maxHeartbeats 4000000 in
theorem k_X4_addSign (l : Launch) (G : Ge) (S : St) (j : Nat) (x : Int)  (hj : j < 8) (hx : 0 ≤ x ∧ x ≤ 126) (hz : 0 ≤ S.1 2 (j : Int) ∧ S.1 2 (j : Int) < 12) (hs : ∀ i : Int, 0 ≤ i → i < S.1 2 (j : Int) → 0 ≤ S.1 (20 + j) i ∧ S.1 (20 + j) i ≤ 126) (hb6 : 0 ≤ S.1 6 (j : Int) ∧ S.1 6 (j : Int) < 2147483648) (hb7 : 0 ≤ S.1 7 (j : Int) ∧ S.1 7 (j : Int) < 2147483648) : Kv (KC G) l yX4_addSign cX4_addSign 2 rm_X4_addSign [.ref (G.2.2 (41 + 2 * j)), .int (iI x)] S (po_X4_addSign S j x) := by
  refine K_start (own := "NameSeeker$Name") (by decide +kernel) rfl (Nat.le_of_ble_eq_true rfl) ?_
  intro p e s m args below meth c X hr hlk I ls hl
  have hl : lv_has ls 2 [(0, .ref (G.2.2 (41 + 2 * j))), (1, .int (iI x))] := hl
  refine lv_aload_n X.1 X.2.1 dX4_addSign_0 rfl (lv_at hl 0 rfl) ?_
  refine gC_name_size X I (j := j) hj (v := (S.1 2 (j : Int))) rfl tb_66 dX4_addSign_1 ?_
  refine ri_push X (v := 12) (by decide) dX4_addSign_4 ?_
  refine rj_lt (tgt := 10) X (by omega) (by omega) dX4_addSign_6 (by decide) (fun _ => ?_) (fun c1 => absurd c1 (by omega))
  refine lv_aload_n X.1 X.2.1 dX4_addSign_10 rfl (lv_at hl 0 rfl) ?_
  refine lv_iload_n X.1 X.2.1 dX4_addSign_11 rfl (lv_at hl 1 rfl) ?_
  refine cl_i I (runV (As := [.int (iI x)]) (rest := []) X (k_X4_wouldBegin l G S (j) x  hj hx hz hs) (gdC tb_341 (gdC tb_343 (gdC tb_2 (gdC tb_17 (gdC tb_344 gdB))))) ⟨ok_X4_wouldBegin, ⟨Nat.le_of_ble_eq_true rfl, Nat.le_of_ble_eq_true rfl⟩, rfl, rfl⟩ (PreV.of (C := RX4) (T := TX4) (N := 7) I (atC_name (j := j) hj) rfl) rfl hl.1 rfl (Nat.le_of_ble_eq_true rfl) dX4_addSign_12 ⟨Nat.zero_le _, Nat.zero_le _⟩) (fun r2 S3 H locs q4 I => ?_)
  obtain ⟨e1_, e2_⟩ := q4
  rw [e2_] at I
  rw [e1_]
  clear e1_ e2_
  rcases Decidable.em (((97 ≤ x ∧ x ≤ 122) ∨ (65 ≤ x ∧ x ≤ 90)) ∧ (S.1 2 (j : Int) = 0 ∨ S.1 (20 + j) (S.1 2 (j : Int) - 1) = 95 ∨ ((65 ≤ x ∧ x ≤ 90) ∧ (97 ≤ S.1 (20 + j) (S.1 2 (j : Int) - 1) ∧ S.1 (20 + j) (S.1 2 (j : Int) - 1) ≤ 122)))) with b5 | b5
  · rw [bI_t b5]
    refine rz_eq (tgt := 33) X (by omega) dX4_addSign_15 (by decide) (fun c6 => absurd c6 (by decide)) (fun _ => ?_)
    refine lv_aload_n X.1 X.2.1 dX4_addSign_18 rfl (lv_at hl 0 rfl) ?_
    refine lv_dup X.1 X.2.1 dX4_addSign_19 rfl ?_
    refine gC_name_beginnings X I (j := j) hj (v := (S.1 6 (j : Int))) rfl tb_78 dX4_addSign_20 ?_
    refine ri_const X (v := 1) dX4_addSign_23 ?_
    refine lv_aload_n X.1 X.2.1 dX4_addSign_24 rfl (lv_at hl 0 rfl) ?_
    refine gC_name_size X I (j := j) hj (v := (S.1 2 (j : Int))) rfl tb_66 dX4_addSign_25 ?_
    refine ri_shl X (by omega) dX4_addSign_28 ?_
    have t7 := pw_r (k := (S.1 2 (j : Int))) (by omega)
    refine ri_or X (by omega) (by omega) dX4_addSign_29 ?_
    have t8 := bor_r (a := (S.1 6 (j : Int))) (b := (pw (S.1 2 (j : Int)))) (by omega) (by omega)
    refine pC_name_beginnings X I (j := j) hj tb_78 dX4_addSign_30 (fun H locs I => ?_)
    have I : In (KC G) s s.heap H locs ((ua S.1 6 (j : Int) (bor (S.1 6 (j : Int)) (pw (S.1 2 (j : Int))))), S.2) := I
    refine lv_iload_n X.1 X.2.1 dX4_addSign_33 rfl (lv_at hl 1 rfl) ?_
    refine cl_i I (runSN (As := [.int (iI x)]) (rest := []) X (k_X9_isLetter l G ((ua S.1 6 (j : Int) (bor (S.1 6 (j : Int)) (pw (S.1 2 (j : Int))))), S.2)  x  (by omega)) (gdC tb_330 gdB) (I.2.2.2.2 _ (List.mem_of_getElem? (i := 0) rfl)) tb_329 tb_14 ⟨ok_X9_isLetter, ⟨Nat.le_of_ble_eq_true rfl, Nat.le_of_ble_eq_true rfl⟩, rfl, rfl⟩ (PreS.of I) rfl hl.1 rfl (Nat.le_of_ble_eq_true rfl) dX4_addSign_34 ⟨Nat.zero_le _, Nat.zero_le _⟩) (fun r9 S10 H locs q11 I => ?_)
    obtain ⟨e1_, e2_⟩ := q11
    rw [e2_] at I
    rw [e1_]
    clear e1_ e2_
    rcases Decidable.em (((97 ≤ (x) ∧ (x) ≤ 122) ∨ (65 ≤ (x) ∧ (x) ≤ 90))) with b12 | b12
    · rw [bI_t b12]
      refine rz_eq (tgt := 55) X (by omega) dX4_addSign_37 (by decide) (fun c13 => absurd c13 (by decide)) (fun _ => ?_)
      refine lv_aload_n X.1 X.2.1 dX4_addSign_40 rfl (lv_at hl 0 rfl) ?_
      refine lv_dup X.1 X.2.1 dX4_addSign_41 rfl ?_
      refine gC_name_letterBits X I (j := j) hj (v := (S.1 7 (j : Int))) (by (try dsimp only); rw [ua_nc (by decide)]) tb_81 dX4_addSign_42 ?_
      refine ri_const X (v := 1) dX4_addSign_45 ?_
      refine lv_iload_n X.1 X.2.1 dX4_addSign_46 rfl (lv_at hl 1 rfl) ?_
      refine cl_i I (runSN (As := [.int (iI x)]) (rest := [.int (iI 1), .int (iI (S.1 7 (j : Int))), .ref (G.2.2 (41 + 2 * j))]) X (k_X9_letterNumber l G ((ua S.1 6 (j : Int) (bor (S.1 6 (j : Int)) (pw (S.1 2 (j : Int))))), S.2)  x  (by omega)) (gdC tb_350 gdB) (I.2.2.2.2 _ (List.mem_of_getElem? (i := 3) rfl)) tb_349 tb_14 ⟨ok_X9_letterNumber, ⟨Nat.le_of_ble_eq_true rfl, Nat.le_of_ble_eq_true rfl⟩, rfl, rfl⟩ (PreS.of I) rfl hl.1 rfl (Nat.le_of_ble_eq_true rfl) dX4_addSign_47 ⟨Nat.zero_le _, Nat.zero_le _⟩) (fun r14 S15 H locs q16 I => ?_)
      obtain ⟨e1_, e2_⟩ := q16
      rw [e2_] at I
      rw [e1_]
      clear e1_ e2_
      have hnr := lnum_r x (by omega)
      have hn2 := lnum_l x (by assumption)
      refine ri_shl X (by omega) dX4_addSign_50 ?_
      have t17 := pw_r (k := (lnum x)) (by omega)
      refine ri_or X (by omega) (by omega) dX4_addSign_51 ?_
      have t18 := bor_r (a := (S.1 7 (j : Int))) (b := (pw (lnum x))) (by omega) (by omega)
      refine pC_name_letterBits X I (j := j) hj tb_81 dX4_addSign_52 (fun H locs I => ?_)
      have I : In (KC G) s s.heap H locs ((ua (ua S.1 6 (j : Int) (bor (S.1 6 (j : Int)) (pw (S.1 2 (j : Int))))) 7 (j : Int) (bor (S.1 7 (j : Int)) (pw (lnum x)))), S.2) := I
      refine lv_aload_n X.1 X.2.1 dX4_addSign_55 rfl (lv_at hl 0 rfl) ?_
      refine gC_name_signs X I (j := j) hj tb_65 dX4_addSign_56 ?_
      refine lv_aload_n X.1 X.2.1 dX4_addSign_59 rfl (lv_at hl 0 rfl) ?_
      refine gC_name_size X I (j := j) hj (v := (S.1 2 (j : Int))) (by (try dsimp only); rw [ua_nc (by decide), ua_nc (by decide)]) tb_66 dX4_addSign_60 ?_
      refine lv_iload_n X.1 X.2.1 dX4_addSign_63 rfl (lv_at hl 1 rfl) ?_
      refine qC_signs X I (j := j) (by omega) (by omega) (by omega) dX4_addSign_64 (fun H locs I => ?_)
      have I : In (KC G) s s.heap H locs ((ua (ua (ua S.1 6 (j : Int) (bor (S.1 6 (j : Int)) (pw (S.1 2 (j : Int))))) 7 (j : Int) (bor (S.1 7 (j : Int)) (pw (lnum x)))) (20 + j) (S.1 2 (j : Int)) x), S.2) := I
      refine lv_aload_n X.1 X.2.1 dX4_addSign_65 rfl (lv_at hl 0 rfl) ?_
      refine lv_dup X.1 X.2.1 dX4_addSign_66 rfl ?_
      refine gC_name_size X I (j := j) hj (v := (S.1 2 (j : Int))) (by (try dsimp only); rw [ua_nc (by omega), ua_nc (by decide), ua_nc (by decide)]) tb_66 dX4_addSign_67 ?_
      refine ri_const X (v := 1) dX4_addSign_70 ?_
      refine ri_add X (v := ((S.1 2 (j : Int)) + 1)) rfl dX4_addSign_71 ?_
      refine pC_name_size X I (j := j) hj tb_66 dX4_addSign_72 (fun H locs I => ?_)
      have I : In (KC G) s s.heap H locs ((ua (ua (ua (ua S.1 6 (j : Int) (bor (S.1 6 (j : Int)) (pw (S.1 2 (j : Int))))) 7 (j : Int) (bor (S.1 7 (j : Int)) (pw (lnum x)))) (20 + j) (S.1 2 (j : Int)) x) 2 (j : Int) ((S.1 2 (j : Int)) + 1)), S.2) := I
      exact rt_v X hr hlk I (by show (_ : St) = _; first | rw [if_pos (by assumption), if_pos (by assumption)] | rw [if_pos (by assumption), if_neg (by assumption), ua_s7 (by decide)] | rw [if_neg (by assumption), ua_self, if_pos (by assumption)] | rw [if_neg (by assumption), ua_self, if_neg (by assumption), ua_self]) dX4_addSign_75
    · rw [bI_f b12]
      refine rz_eq (tgt := 55) X (by omega) dX4_addSign_37 (by decide) (fun _ => ?_) (fun c19 => absurd c19 (fun q => q (by decide)))
      refine lv_aload_n X.1 X.2.1 dX4_addSign_55 rfl (lv_at hl 0 rfl) ?_
      refine gC_name_signs X I (j := j) hj tb_65 dX4_addSign_56 ?_
      refine lv_aload_n X.1 X.2.1 dX4_addSign_59 rfl (lv_at hl 0 rfl) ?_
      refine gC_name_size X I (j := j) hj (v := (S.1 2 (j : Int))) (by (try dsimp only); rw [ua_nc (by decide)]) tb_66 dX4_addSign_60 ?_
      refine lv_iload_n X.1 X.2.1 dX4_addSign_63 rfl (lv_at hl 1 rfl) ?_
      refine qC_signs X I (j := j) (by omega) (by omega) (by omega) dX4_addSign_64 (fun H locs I => ?_)
      have I : In (KC G) s s.heap H locs ((ua (ua S.1 6 (j : Int) (bor (S.1 6 (j : Int)) (pw (S.1 2 (j : Int))))) (20 + j) (S.1 2 (j : Int)) x), S.2) := I
      refine lv_aload_n X.1 X.2.1 dX4_addSign_65 rfl (lv_at hl 0 rfl) ?_
      refine lv_dup X.1 X.2.1 dX4_addSign_66 rfl ?_
      refine gC_name_size X I (j := j) hj (v := (S.1 2 (j : Int))) (by (try dsimp only); rw [ua_nc (by omega), ua_nc (by decide)]) tb_66 dX4_addSign_67 ?_
      refine ri_const X (v := 1) dX4_addSign_70 ?_
      refine ri_add X (v := ((S.1 2 (j : Int)) + 1)) rfl dX4_addSign_71 ?_
      refine pC_name_size X I (j := j) hj tb_66 dX4_addSign_72 (fun H locs I => ?_)
      have I : In (KC G) s s.heap H locs ((ua (ua (ua S.1 6 (j : Int) (bor (S.1 6 (j : Int)) (pw (S.1 2 (j : Int))))) (20 + j) (S.1 2 (j : Int)) x) 2 (j : Int) ((S.1 2 (j : Int)) + 1)), S.2) := I
      exact rt_v X hr hlk I (by show (_ : St) = _; first | rw [if_pos (by assumption), if_pos (by assumption)] | rw [if_pos (by assumption), if_neg (by assumption), ua_s7 (by decide)] | rw [if_neg (by assumption), ua_self, if_pos (by assumption)] | rw [if_neg (by assumption), ua_self, if_neg (by assumption), ua_self]) dX4_addSign_75
  · rw [bI_f b5]
    refine rz_eq (tgt := 33) X (by omega) dX4_addSign_15 (by decide) (fun _ => ?_) (fun c20 => absurd c20 (fun q => q (by decide)))
    refine lv_iload_n X.1 X.2.1 dX4_addSign_33 rfl (lv_at hl 1 rfl) ?_
    refine cl_i I (runSN (As := [.int (iI x)]) (rest := []) X (k_X9_isLetter l G S  x  (by omega)) (gdC tb_330 gdB) (I.2.2.2.2 _ (List.mem_of_getElem? (i := 0) rfl)) tb_329 tb_14 ⟨ok_X9_isLetter, ⟨Nat.le_of_ble_eq_true rfl, Nat.le_of_ble_eq_true rfl⟩, rfl, rfl⟩ (PreS.of I) rfl hl.1 rfl (Nat.le_of_ble_eq_true rfl) dX4_addSign_34 ⟨Nat.zero_le _, Nat.zero_le _⟩) (fun r21 S22 H locs q23 I => ?_)
    obtain ⟨e1_, e2_⟩ := q23
    rw [e2_] at I
    rw [e1_]
    clear e1_ e2_
    rcases Decidable.em (((97 ≤ (x) ∧ (x) ≤ 122) ∨ (65 ≤ (x) ∧ (x) ≤ 90))) with b24 | b24
    · rw [bI_t b24]
      refine rz_eq (tgt := 55) X (by omega) dX4_addSign_37 (by decide) (fun c25 => absurd c25 (by decide)) (fun _ => ?_)
      refine lv_aload_n X.1 X.2.1 dX4_addSign_40 rfl (lv_at hl 0 rfl) ?_
      refine lv_dup X.1 X.2.1 dX4_addSign_41 rfl ?_
      refine gC_name_letterBits X I (j := j) hj (v := (S.1 7 (j : Int))) rfl tb_81 dX4_addSign_42 ?_
      refine ri_const X (v := 1) dX4_addSign_45 ?_
      refine lv_iload_n X.1 X.2.1 dX4_addSign_46 rfl (lv_at hl 1 rfl) ?_
      refine cl_i I (runSN (As := [.int (iI x)]) (rest := [.int (iI 1), .int (iI (S.1 7 (j : Int))), .ref (G.2.2 (41 + 2 * j))]) X (k_X9_letterNumber l G S  x  (by omega)) (gdC tb_350 gdB) (I.2.2.2.2 _ (List.mem_of_getElem? (i := 3) rfl)) tb_349 tb_14 ⟨ok_X9_letterNumber, ⟨Nat.le_of_ble_eq_true rfl, Nat.le_of_ble_eq_true rfl⟩, rfl, rfl⟩ (PreS.of I) rfl hl.1 rfl (Nat.le_of_ble_eq_true rfl) dX4_addSign_47 ⟨Nat.zero_le _, Nat.zero_le _⟩) (fun r26 S27 H locs q28 I => ?_)
      obtain ⟨e1_, e2_⟩ := q28
      rw [e2_] at I
      rw [e1_]
      clear e1_ e2_
      have hnr := lnum_r x (by omega)
      have hn2 := lnum_l x (by assumption)
      refine ri_shl X (by omega) dX4_addSign_50 ?_
      have t29 := pw_r (k := (lnum x)) (by omega)
      refine ri_or X (by omega) (by omega) dX4_addSign_51 ?_
      have t30 := bor_r (a := (S.1 7 (j : Int))) (b := (pw (lnum x))) (by omega) (by omega)
      refine pC_name_letterBits X I (j := j) hj tb_81 dX4_addSign_52 (fun H locs I => ?_)
      have I : In (KC G) s s.heap H locs ((ua S.1 7 (j : Int) (bor (S.1 7 (j : Int)) (pw (lnum x)))), S.2) := I
      refine lv_aload_n X.1 X.2.1 dX4_addSign_55 rfl (lv_at hl 0 rfl) ?_
      refine gC_name_signs X I (j := j) hj tb_65 dX4_addSign_56 ?_
      refine lv_aload_n X.1 X.2.1 dX4_addSign_59 rfl (lv_at hl 0 rfl) ?_
      refine gC_name_size X I (j := j) hj (v := (S.1 2 (j : Int))) (by (try dsimp only); rw [ua_nc (by decide)]) tb_66 dX4_addSign_60 ?_
      refine lv_iload_n X.1 X.2.1 dX4_addSign_63 rfl (lv_at hl 1 rfl) ?_
      refine qC_signs X I (j := j) (by omega) (by omega) (by omega) dX4_addSign_64 (fun H locs I => ?_)
      have I : In (KC G) s s.heap H locs ((ua (ua S.1 7 (j : Int) (bor (S.1 7 (j : Int)) (pw (lnum x)))) (20 + j) (S.1 2 (j : Int)) x), S.2) := I
      refine lv_aload_n X.1 X.2.1 dX4_addSign_65 rfl (lv_at hl 0 rfl) ?_
      refine lv_dup X.1 X.2.1 dX4_addSign_66 rfl ?_
      refine gC_name_size X I (j := j) hj (v := (S.1 2 (j : Int))) (by (try dsimp only); rw [ua_nc (by omega), ua_nc (by decide)]) tb_66 dX4_addSign_67 ?_
      refine ri_const X (v := 1) dX4_addSign_70 ?_
      refine ri_add X (v := ((S.1 2 (j : Int)) + 1)) rfl dX4_addSign_71 ?_
      refine pC_name_size X I (j := j) hj tb_66 dX4_addSign_72 (fun H locs I => ?_)
      have I : In (KC G) s s.heap H locs ((ua (ua (ua S.1 7 (j : Int) (bor (S.1 7 (j : Int)) (pw (lnum x)))) (20 + j) (S.1 2 (j : Int)) x) 2 (j : Int) ((S.1 2 (j : Int)) + 1)), S.2) := I
      exact rt_v X hr hlk I (by show (_ : St) = _; first | rw [if_pos (by assumption), if_pos (by assumption)] | rw [if_pos (by assumption), if_neg (by assumption), ua_s7 (by decide)] | rw [if_neg (by assumption), ua_self, if_pos (by assumption)] | rw [if_neg (by assumption), ua_self, if_neg (by assumption), ua_self]) dX4_addSign_75
    · rw [bI_f b24]
      refine rz_eq (tgt := 55) X (by omega) dX4_addSign_37 (by decide) (fun _ => ?_) (fun c31 => absurd c31 (fun q => q (by decide)))
      refine lv_aload_n X.1 X.2.1 dX4_addSign_55 rfl (lv_at hl 0 rfl) ?_
      refine gC_name_signs X I (j := j) hj tb_65 dX4_addSign_56 ?_
      refine lv_aload_n X.1 X.2.1 dX4_addSign_59 rfl (lv_at hl 0 rfl) ?_
      refine gC_name_size X I (j := j) hj (v := (S.1 2 (j : Int))) rfl tb_66 dX4_addSign_60 ?_
      refine lv_iload_n X.1 X.2.1 dX4_addSign_63 rfl (lv_at hl 1 rfl) ?_
      refine qC_signs X I (j := j) (by omega) (by omega) (by omega) dX4_addSign_64 (fun H locs I => ?_)
      have I : In (KC G) s s.heap H locs ((ua S.1 (20 + j) (S.1 2 (j : Int)) x), S.2) := I
      refine lv_aload_n X.1 X.2.1 dX4_addSign_65 rfl (lv_at hl 0 rfl) ?_
      refine lv_dup X.1 X.2.1 dX4_addSign_66 rfl ?_
      refine gC_name_size X I (j := j) hj (v := (S.1 2 (j : Int))) (by (try dsimp only); rw [ua_nc (by omega)]) tb_66 dX4_addSign_67 ?_
      refine ri_const X (v := 1) dX4_addSign_70 ?_
      refine ri_add X (v := ((S.1 2 (j : Int)) + 1)) rfl dX4_addSign_71 ?_
      refine pC_name_size X I (j := j) hj tb_66 dX4_addSign_72 (fun H locs I => ?_)
      have I : In (KC G) s s.heap H locs ((ua (ua S.1 (20 + j) (S.1 2 (j : Int)) x) 2 (j : Int) ((S.1 2 (j : Int)) + 1)), S.2) := I
      exact rt_v X hr hlk I (by show (_ : St) = _; first | rw [if_pos (by assumption), if_pos (by assumption)] | rw [if_pos (by assumption), if_neg (by assumption), ua_s7 (by decide)] | rw [if_neg (by assumption), ua_self, if_pos (by assumption)] | rw [if_neg (by assumption), ua_self, if_neg (by assumption), ua_self]) dX4_addSign_75
