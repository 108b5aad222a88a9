/-- what a name holds that is told -/
def NmOK (F : Nat → Int → Int) (j : Nat) : Prop := (1 ≤ F 2 (j : Int) ∧ F 2 (j : Int) ≤ 12) ∧ (0 ≤ F 3 (j : Int) ∧ F 3 (j : Int) ≤ 3) ∧ (0 ≤ F 4 (j : Int) ∧ F 4 (j : Int) ≤ 100000) ∧ (0 ≤ F 5 (j : Int) ∧ F 5 (j : Int) ≤ 100000) ∧ (0 ≤ F 6 (j : Int) ∧ F 6 (j : Int) < 2147483648) ∧ (0 ≤ F 7 (j : Int) ∧ F 7 (j : Int) < 2147483648) ∧ ∀ i : Int, 0 ≤ i → i < F 2 (j : Int) → 0 ≤ F (20 + j) i ∧ F (20 + j) i ≤ 126
/-- the ranges of the class's numbers, n calls after it was made -/
def CI (S : St) (n : Int) : Prop := (0 ≤ S.1 50 0 ∧ S.1 50 0 ≤ 200) ∧ (∀ i : Int, 0 ≤ i → i < S.1 50 0 → 32 ≤ S.1 0 i ∧ S.1 0 i ≤ 126) ∧ (1 ≤ S.1 51 0 ∧ S.1 51 0 ≤ 8) ∧ ((0 ≤ S.1 53 0 ∧ S.1 53 0 ≤ 9) ∧ (0 ≤ S.1 54 0 ∧ S.1 54 0 ≤ 9) ∧ (0 ≤ S.1 55 0 ∧ S.1 55 0 ≤ 9)) ∧ ((0 ≤ n ∧ n ≤ 600) ∧ (0 ≤ S.1 52 0 ∧ S.1 52 0 ≤ 8 * n + 8) ∧ (0 ≤ S.1 56 0 ∧ S.1 56 0 ≤ 2) ∧ (0 ≤ S.1 57 0 ∧ S.1 57 0 ≤ n) ∧ (1 ≤ S.1 58 0 ∧ S.1 58 0 ≤ n + 1) ∧ (0 ≤ S.1 59 0 ∧ S.1 59 0 < 65521) ∧ (0 ≤ S.1 61 0 ∧ S.1 61 0 ≤ 8 * n) ∧ (0 ≤ S.1 62 0 ∧ S.1 62 0 ≤ 8 * n) ∧ (0 ≤ S.1 63 0 ∧ S.1 63 0 ≤ 6)) ∧ (∀ i : Nat, i < 8 → S.2 i < 8) ∧ (∀ i j : Nat, i < 8 → j < 8 → S.2 i = S.2 j → i = j) ∧ (∀ x : Int, 0 ≤ x → x < S.1 51 0 → NmOK S.1 (S.2 x.toNat)) ∧ (∀ w : Nat, w < 4 → (0 ≤ S.1 8 (w : Int) ∧ S.1 8 (w : Int) ≤ 6) ∧ ∀ i : Int, 0 ≤ i → i < S.1 8 (w : Int) → ((97 ≤ S.1 (16 + w) i ∧ S.1 (16 + w) i ≤ 122) ∨ (65 ≤ S.1 (16 + w) i ∧ S.1 (16 + w) i ≤ 90))) ∧ (∀ q : Int, 0 ≤ q → q < 32 → (-100000 ≤ S.1 10 q ∧ S.1 10 q ≤ 100000) ∧ (0 ≤ S.1 11 q ∧ S.1 11 q < 1099511627776) ∧ (0 ≤ S.1 12 q ∧ S.1 12 q ≤ 100000) ∧ (-1000 ≤ S.1 13 q ∧ S.1 13 q ≤ 1000)) ∧ (∀ i : Int, 0 ≤ i → i < 6 → 0 ≤ S.1 14 i ∧ S.1 14 i < 1099511627776) ∧ nxi S.1

theorem ok_X9_write : yX9_write.cls ≠ "java/lang/invoke/MethodHandle" ∧ yX9_write.cls ≠ "java/lang/invoke/VarHandle" ∧ (parseMethodDescriptor yX9_write.desc).map (fun d => d.parameters.length) = some 1 := ⟨by decide +kernel, by decide +kernel, by decide +kernel⟩
abbrev po_X9_write (S : St)  (x : Int) : Int → St → Prop := fun r S1 => (¬ (32 ≤ x ∧ x ≤ 126) ∧ r = -1 ∧ S1 = S) ∨ ((32 ≤ x ∧ x ≤ 126) ∧ 200 ≤ S.1 50 0 ∧ r = -3 ∧ S1 = S) ∨ ((32 ≤ x ∧ x ≤ 126) ∧ S.1 50 0 < 200 ∧ r = S.1 50 0 + 1 ∧ S1 = (us (ua S.1 0 (S.1 50 0) x) 50 (S.1 50 0 + 1), S.2))
abbrev rm_X9_write : Room := ({ frames := 1, cells := 0, slots := 0, locals := 21 } : Room)
set_option maxRecDepth 100000 in
set_option maxHeartbeats 4000000 in
theorem k_X9_write (l : Launch) (G : Ge) (S : St)  (x : Int)  (hx : -2147483648 ≤ x ∧ x < 2147483648) (N_ : Int) (hI : CI S N_) : Ki (KC G) l yX9_write cX9_write 2 .int rm_X9_write [.ref (G.2.2 0), .int (iI x)] S (po_X9_write S x) := by
  refine K_start (own := "NameSeeker") (by decide +kernel) rfl (Nat.le_of_ble_eq_true rfl) ?_
  intro p e s m args below meth c X hr hlk I ls hl
  have hl : lv_has ls 2 [(0, .ref (G.2.2 0)), (1, .int (iI x))] := hl
  obtain ⟨ht, hc, hln, hsc, hcn, hpi, hinj, hnm, hwd, hkn, has, hnx⟩ := hI
  refine lv_iload_n X.1 X.2.1 dX9_write_0 rfl (lv_at hl 1 rfl) ?_
  refine ri_push X (v := 32) (by decide) dX9_write_1 ?_
  refine rj_lt (tgt := 12) X (by omega) (by omega) dX9_write_3 (by decide) (fun c1 => ?_) (fun c1 => ?_)
  · skip
    refine ri_const X (v := (-1)) dX9_write_12 ?_
    exact rt_i X hr hlk I rfl (by exact Or.inl ⟨by omega, rfl, rfl⟩) dX9_write_13
  · skip
    refine lv_iload_n X.1 X.2.1 dX9_write_6 rfl (lv_at hl 1 rfl) ?_
    refine ri_push X (v := 126) (by decide) dX9_write_7 ?_
    refine rj_le (tgt := 14) X (by omega) (by omega) dX9_write_9 (by decide) (fun c2 => ?_) (fun c2 => ?_)
    · skip
      refine lv_aload_n X.1 X.2.1 dX9_write_14 rfl (lv_at hl 0 rfl) ?_
      refine gC_ns_text X I tb_377 dX9_write_15 ?_
      refine gC_text_size X I (v := (S.1 50 0)) rfl tb_45 dX9_write_18 ?_
      refine ri_spush X (v := 200) (by decide) dX9_write_21 ?_
      refine rj_lt (tgt := 30) X (by omega) (by omega) dX9_write_24 (by decide) (fun c3 => ?_) (fun c3 => ?_)
      · skip
        refine lv_aload_n X.1 X.2.1 dX9_write_30 rfl (lv_at hl 0 rfl) ?_
        refine gC_ns_text X I tb_377 dX9_write_31 ?_
        refine lv_iload_n X.1 X.2.1 dX9_write_34 rfl (lv_at hl 1 rfl) ?_
        refine ri_i2c X (by omega) dX9_write_35 ?_
        refine cl_v I (runV (As := [.int (iI x)]) (rest := []) X (k_X7_append l G S  x  (by omega) (by omega)) (gdC tb_283 (gdC tb_284 (gdC tb_285 (gdC tb_15 (gdC tb_286 gdB))))) ⟨ok_X7_append, ⟨Nat.le_of_ble_eq_true rfl, Nat.le_of_ble_eq_true rfl⟩, rfl, rfl⟩ (PreV.of (C := RX7) (T := TX7) (N := 2) I (atC_text) rfl) rfl hl.1 rfl (Nat.le_of_ble_eq_true rfl) dX9_write_36 ⟨Nat.zero_le _, Nat.zero_le _⟩) (fun S5 H locs q6 I => ?_)
        rw [q6] at I
        have I : In (KC G) s s.heap H locs ((us (ua S.1 0 (S.1 50 0) x) 50 ((S.1 50 0) + 1)), S.2) := I
        refine lv_aload_n X.1 X.2.1 dX9_write_39 rfl (lv_at hl 0 rfl) ?_
        refine gC_ns_text X I tb_377 dX9_write_40 ?_
        refine gC_text_size X I (v := ((S.1 50 0) + 1)) (by show (us (ua S.1 0 (S.1 50 0) x) 50 ((S.1 50 0) + 1)) 50 0 = _; rw [us_eq]) tb_45 dX9_write_43 ?_
        exact rt_i X hr hlk I rfl (by exact Or.inr (Or.inr (⟨by omega, by omega, rfl, rfl⟩))) dX9_write_46
      · skip
        refine ri_push X (v := (-3)) (by decide) dX9_write_27 ?_
        exact rt_i X hr hlk I rfl (by exact Or.inr (Or.inl ⟨by omega, by omega, rfl, rfl⟩)) dX9_write_29
    · skip
      refine ri_const X (v := (-1)) dX9_write_12 ?_
      exact rt_i X hr hlk I rfl (by exact Or.inl ⟨by omega, rfl, rfl⟩) dX9_write_13

theorem ok_X9_wipe : yX9_wipe.cls ≠ "java/lang/invoke/MethodHandle" ∧ yX9_wipe.cls ≠ "java/lang/invoke/VarHandle" ∧ (parseMethodDescriptor yX9_wipe.desc).map (fun d => d.parameters.length) = some 0 := ⟨by decide +kernel, by decide +kernel, by decide +kernel⟩
abbrev po_X9_wipe (S : St)   : Int → St → Prop := fun r S1 => r = S.1 50 0 ∧ S1 = (us S.1 50 0, S.2)
abbrev rm_X9_wipe : Room := ({ frames := 1, cells := 0, slots := 0, locals := 21 } : Room)
set_option maxRecDepth 100000 in
set_option maxHeartbeats 4000000 in
theorem k_X9_wipe (l : Launch) (G : Ge) (S : St)    (N_ : Int) (hI : CI S N_) : Ki (KC G) l yX9_wipe cX9_wipe 1 .int rm_X9_wipe [.ref (G.2.2 0)] S (po_X9_wipe S) := by
  refine K_start (own := "NameSeeker") (by decide +kernel) rfl (Nat.le_of_ble_eq_true rfl) ?_
  intro p e s m args below meth c X hr hlk I ls hl
  have hl : lv_has ls 1 [(0, .ref (G.2.2 0))] := hl
  obtain ⟨ht, hc, hln, hsc, hcn, hpi, hinj, hnm, hwd, hkn, has, hnx⟩ := hI
  refine lv_aload_n X.1 X.2.1 dX9_wipe_0 rfl (lv_at hl 0 rfl) ?_
  refine gC_ns_text X I tb_377 dX9_wipe_1 ?_
  refine cl_i I (runV (As := []) (rest := []) X (k_X7_clear l G S    ) (gdC tb_373 (gdC tb_374 (gdC tb_375 (gdC tb_15 (gdC tb_376 gdB))))) ⟨ok_X7_clear, ⟨Nat.le_of_ble_eq_true rfl, Nat.le_of_ble_eq_true rfl⟩, rfl, rfl⟩ (PreV.of (C := RX7) (T := TX7) (N := 2) I (atC_text) rfl) rfl hl.1 rfl (Nat.le_of_ble_eq_true rfl) dX9_wipe_4 ⟨Nat.zero_le _, Nat.zero_le _⟩) (fun r1 S2 H locs q3 I => ?_)
  obtain ⟨e1_, e2_⟩ := q3
  rw [e2_] at I
  rw [e1_]
  clear e1_ e2_
  have I : In (KC G) s s.heap H locs ((us S.1 50 0), S.2) := I
  exact rt_i X hr hlk I rfl (by exact ⟨rfl, rfl⟩) dX9_wipe_7

theorem ok_X9_fault : yX9_fault.cls ≠ "java/lang/invoke/MethodHandle" ∧ yX9_fault.cls ≠ "java/lang/invoke/VarHandle" ∧ (parseMethodDescriptor yX9_fault.desc).map (fun d => d.parameters.length) = some 0 := ⟨by decide +kernel, by decide +kernel, by decide +kernel⟩
abbrev po_X9_fault (S : St)   : Int → St → Prop := fun r S1 => r = flt (txat S) (S.1 50 0) 200 0 0 ∧ S1 = S
abbrev rm_X9_fault : Room := ({ frames := 6, cells := 0, slots := 0, locals := 132 } : Room)
set_option maxRecDepth 100000 in
set_option maxHeartbeats 4000000 in
theorem k_X9_fault (l : Launch) (G : Ge) (S : St)    (N_ : Int) (hI : CI S N_) : Ki (KC G) l yX9_fault cX9_fault 1 .int rm_X9_fault [.ref (G.2.2 0)] S (po_X9_fault S) := by
  refine K_start (own := "NameSeeker") (by decide +kernel) rfl (Nat.le_of_ble_eq_true rfl) ?_
  intro p e s m args below meth c X hr hlk I ls hl
  have hl : lv_has ls 1 [(0, .ref (G.2.2 0))] := hl
  obtain ⟨ht, hc, hln, hsc, hcn, hpi, hinj, hnm, hwd, hkn, has, hnx⟩ := hI
  refine lv_aload_n X.1 X.2.1 dX9_fault_0 rfl (lv_at hl 0 rfl) ?_
  refine gC_ns_text X I tb_377 dX9_fault_1 ?_
  refine cl_i I (runV (As := []) (rest := []) X (k_X7_firstFault l G S    ht hc) (gdC tb_515 (gdC tb_516 (gdC tb_517 (gdC tb_15 (gdC tb_518 gdB))))) ⟨ok_X7_firstFault, ⟨Nat.le_of_ble_eq_true rfl, Nat.le_of_ble_eq_true rfl⟩, rfl, rfl⟩ (PreV.of (C := RX7) (T := TX7) (N := 2) I (atC_text) rfl) rfl hl.1 rfl (Nat.le_of_ble_eq_true rfl) dX9_fault_4 ⟨Nat.zero_le _, Nat.zero_le _⟩) (fun r1 S2 H locs q3 I => ?_)
  obtain ⟨e1_, e2_⟩ := q3
  rw [e2_] at I
  rw [e1_]
  clear e1_ e2_
  have t4 := flt_r (f := txat S) ht 200 0 0 (by omega)
  exact rt_i X hr hlk I rfl (by exact ⟨rfl, rfl⟩) dX9_fault_7

theorem ok_X9_name : yX9_name.cls ≠ "java/lang/invoke/MethodHandle" ∧ yX9_name.cls ≠ "java/lang/invoke/VarHandle" ∧ (parseMethodDescriptor yX9_name.desc).map (fun d => d.parameters.length) = some 2 := ⟨by decide +kernel, by decide +kernel, by decide +kernel⟩
abbrev po_X9_name (S : St)  (x : Int) (u : Int) : Int → St → Prop := fun r S1 => ((¬ (0 ≤ x ∧ x < S.1 51 0) ∨ ¬ (0 ≤ u ∧ u ≤ 4)) ∧ r = -1 ∧ S1 = S) ∨ ((0 ≤ x ∧ x < S.1 51 0) ∧ ((u = 0 ∧ r = S.1 3 ((S.2 x.toNat : Nat) : Int)) ∨ (u = 1 ∧ r = S.1 2 ((S.2 x.toNat : Nat) : Int)) ∨ (u = 2 ∧ r = S.1 4 ((S.2 x.toNat : Nat) : Int)) ∨ (u = 3 ∧ r = S.1 5 ((S.2 x.toNat : Nat) : Int)) ∨ (u = 4 ∧ r = S.1 6 ((S.2 x.toNat : Nat) : Int))) ∧ S1 = S)
abbrev rm_X9_name : Room := ({ frames := 1, cells := 0, slots := 0, locals := 21 } : Room)
set_option maxRecDepth 100000 in
set_option maxHeartbeats 4000000 in
theorem k_X9_name (l : Launch) (G : Ge) (S : St)  (x : Int) (u : Int)  (hx : -2147483648 ≤ x ∧ x < 2147483648) (hu : -2147483648 ≤ u ∧ u < 2147483648) (N_ : Int) (hI : CI S N_) : Ki (KC G) l yX9_name cX9_name 4 .int rm_X9_name [.ref (G.2.2 0), .int (iI x), .int (iI u)] S (po_X9_name S x u) := by
  refine K_start (own := "NameSeeker") (by decide +kernel) rfl (Nat.le_of_ble_eq_true rfl) ?_
  intro p e s m args below meth c X hr hlk I ls hl
  have hl : lv_has ls 4 [(0, .ref (G.2.2 0)), (1, .int (iI x)), (2, .int (iI u))] := hl
  obtain ⟨ht, hc, hln, hsc, hcn, hpi, hinj, hnm, hwd, hkn, has, hnx⟩ := hI
  refine lv_aload_n X.1 X.2.1 dX9_name_0 rfl (lv_at hl 0 rfl) ?_
  refine gC_ns_lot X I tb_378 dX9_name_1 ?_
  refine lv_iload_n X.1 X.2.1 dX9_name_4 rfl (lv_at hl 1 rfl) ?_
  refine cl_i I (runV (As := [.int (iI x)]) (rest := []) X (k_X3_has l G S  x (S.1 51 0) rfl (by omega) (by omega)) (gdC tb_425 (gdC tb_426 (gdC tb_427 (gdC tb_16 (gdC tb_428 gdB))))) ⟨ok_X3_has, ⟨Nat.le_of_ble_eq_true rfl, Nat.le_of_ble_eq_true rfl⟩, rfl, rfl⟩ (PreV.of (C := RX3) (T := TX3) (N := 3) I (atC_lot) rfl) rfl hl.1 rfl (Nat.le_of_ble_eq_true rfl) dX9_name_5 ⟨Nat.zero_le _, Nat.zero_le _⟩) (fun r1 S2 H locs q3 I => ?_)
  obtain ⟨e1_, e2_⟩ := q3
  rw [e2_] at I
  rw [e1_]
  clear e1_ e2_
  rcases Decidable.em ((0 ≤ x ∧ x < (S.1 51 0))) with b4 | b4
  · rw [bI_t b4]
    refine rz_ne (tgt := 13) X (by omega) dX9_name_8 (by decide) (fun _ => ?_) (fun c5 => absurd c5 (by decide))
    refine lv_aload_n X.1 X.2.1 dX9_name_13 rfl (lv_at hl 0 rfl) ?_
    refine gC_ns_lot X I tb_378 dX9_name_14 ?_
    refine gC_lot_names X I tb_99 dX9_name_17 ?_
    refine lv_iload_n X.1 X.2.1 dX9_name_20 rfl (lv_at hl 1 rfl) ?_
    refine aC_names X I (by omega) dX9_name_21 ?_
    refine lv_astore_n (lv' := [(3, .ref (G.2.2 (41 + 2 * S.2 x.toNat))), (0, .ref (G.2.2 0)), (1, .int (iI x)), (2, .int (iI u))]) X.1 X.2.1 dX9_name_22 rfl hl (by decide) rfl (fun ls hl => ?_)
    refine lv_iload_n X.1 X.2.1 dX9_name_23 rfl (lv_at hl 3 rfl) ?_
    rcases Decidable.em (u = 0) with c6 | c6
    · refine lv_tableIn (off := 36) (tgt := 60) X.1 X.2.1 dX9_name_24 (by rw [iI_t (by omega)]; omega) (by rw [iI_t (by omega)]; omega) (by rw [iI_t (by omega), c6]; rfl) (by decide) ?_
      refine lv_aload_n X.1 X.2.1 dX9_name_60 rfl (lv_at hl 0 rfl) ?_
      refine gC_name_kind X I (j := (S.2 x.toNat)) (hpi _ (by omega)) (v := (S.1 3 (((S.2 x.toNat) : Nat) : Int))) rfl tb_72 dX9_name_61 ?_
      exact rt_i X hr hlk I rfl (by exact Or.inr (⟨by omega, Or.inl ⟨by omega, rfl⟩, rfl⟩)) dX9_name_64
    rcases Decidable.em (u = 1) with c7 | c7
    · refine lv_tableIn (off := 41) (tgt := 65) X.1 X.2.1 dX9_name_24 (by rw [iI_t (by omega)]; omega) (by rw [iI_t (by omega)]; omega) (by rw [iI_t (by omega), c7]; rfl) (by decide) ?_
      refine lv_aload_n X.1 X.2.1 dX9_name_65 rfl (lv_at hl 0 rfl) ?_
      refine gC_name_size X I (j := (S.2 x.toNat)) (hpi _ (by omega)) (v := (S.1 2 (((S.2 x.toNat) : Nat) : Int))) rfl tb_69 dX9_name_66 ?_
      exact rt_i X hr hlk I rfl (by exact Or.inr (⟨by omega, Or.inr (Or.inl ⟨by omega, rfl⟩), rfl⟩)) dX9_name_69
    rcases Decidable.em (u = 2) with c8 | c8
    · refine lv_tableIn (off := 46) (tgt := 70) X.1 X.2.1 dX9_name_24 (by rw [iI_t (by omega)]; omega) (by rw [iI_t (by omega)]; omega) (by rw [iI_t (by omega), c8]; rfl) (by decide) ?_
      refine lv_aload_n X.1 X.2.1 dX9_name_70 rfl (lv_at hl 0 rfl) ?_
      refine gC_name_id X I (j := (S.2 x.toNat)) (hpi _ (by omega)) (v := (S.1 4 (((S.2 x.toNat) : Nat) : Int))) rfl tb_74 dX9_name_71 ?_
      exact rt_i X hr hlk I rfl (by exact Or.inr (⟨by omega, Or.inr (Or.inr (Or.inl ⟨by omega, rfl⟩)), rfl⟩)) dX9_name_74
    rcases Decidable.em (u = 3) with c9 | c9
    · refine lv_tableIn (off := 51) (tgt := 75) X.1 X.2.1 dX9_name_24 (by rw [iI_t (by omega)]; omega) (by rw [iI_t (by omega)]; omega) (by rw [iI_t (by omega), c9]; rfl) (by decide) ?_
      refine lv_aload_n X.1 X.2.1 dX9_name_75 rfl (lv_at hl 0 rfl) ?_
      refine gC_name_picked X I (j := (S.2 x.toNat)) (hpi _ (by omega)) (v := (S.1 5 (((S.2 x.toNat) : Nat) : Int))) rfl tb_77 dX9_name_76 ?_
      exact rt_i X hr hlk I rfl (by exact Or.inr (⟨by omega, Or.inr (Or.inr (Or.inr (Or.inl ⟨by omega, rfl⟩))), rfl⟩)) dX9_name_79
    rcases Decidable.em (u = 4) with c10 | c10
    · refine lv_tableIn (off := 56) (tgt := 80) X.1 X.2.1 dX9_name_24 (by rw [iI_t (by omega)]; omega) (by rw [iI_t (by omega)]; omega) (by rw [iI_t (by omega), c10]; rfl) (by decide) ?_
      refine lv_aload_n X.1 X.2.1 dX9_name_80 rfl (lv_at hl 0 rfl) ?_
      refine gC_name_beginnings X I (j := (S.2 x.toNat)) (hpi _ (by omega)) (v := (S.1 6 (((S.2 x.toNat) : Nat) : Int))) rfl tb_80 dX9_name_81 ?_
      exact rt_i X hr hlk I rfl (by exact Or.inr (⟨by omega, Or.inr (Or.inr (Or.inr (Or.inr (⟨by omega, rfl⟩)))), rfl⟩)) dX9_name_84
    refine lv_tableOut (tgt := 85) X.1 X.2.1 dX9_name_24 (by rw [iI_t (by omega)]; omega) (by decide) ?_
    refine ri_const X (v := (-1)) dX9_name_85 ?_
    exact rt_i X hr hlk I rfl (by exact Or.inl ⟨by omega, rfl, rfl⟩) dX9_name_86
  · rw [bI_f b4]
    refine rz_ne (tgt := 13) X (by omega) dX9_name_8 (by decide) (fun c11 => absurd c11 (by decide)) (fun _ => ?_)
    refine ri_const X (v := (-1)) dX9_name_11 ?_
    exact rt_i X hr hlk I rfl (by exact Or.inl ⟨by omega, rfl, rfl⟩) dX9_name_12

theorem ok_X9_type : yX9_type.cls ≠ "java/lang/invoke/MethodHandle" ∧ yX9_type.cls ≠ "java/lang/invoke/VarHandle" ∧ (parseMethodDescriptor yX9_type.desc).map (fun d => d.parameters.length) = some 1 := ⟨by decide +kernel, by decide +kernel, by decide +kernel⟩
abbrev po_X9_type (S : St)  (x : Int) : Int → St → Prop := fun r S1 => (¬ ((97 ≤ x ∧ x ≤ 122) ∨ (65 ≤ x ∧ x ≤ 90)) ∧ r = -1 ∧ S1 = S) ∨ (((97 ≤ x ∧ x ≤ 122) ∨ (65 ≤ x ∧ x ≤ 90)) ∧ 6 ≤ S.1 8 0 ∧ r = -3 ∧ S1 = S) ∨ (((97 ≤ x ∧ x ≤ 122) ∨ (65 ≤ x ∧ x ≤ 90)) ∧ S.1 8 0 < 6 ∧ r = S.1 8 0 + 1 ∧ S1 = (ua (ua S.1 16 (S.1 8 0) x) 8 0 (S.1 8 0 + 1), S.2))
abbrev rm_X9_type : Room := ({ frames := 2, cells := 0, slots := 0, locals := 40 } : Room)
set_option maxRecDepth 100000 in
set_option maxHeartbeats 4000000 in
theorem k_X9_type (l : Launch) (G : Ge) (S : St)  (x : Int)  (hx : -2147483648 ≤ x ∧ x < 2147483648) (N_ : Int) (hI : CI S N_) : Ki (KC G) l yX9_type cX9_type 2 .int rm_X9_type [.ref (G.2.2 0), .int (iI x)] S (po_X9_type S x) := by
  refine K_start (own := "NameSeeker") (by decide +kernel) rfl (Nat.le_of_ble_eq_true rfl) ?_
  intro p e s m args below meth c X hr hlk I ls hl
  have hl : lv_has ls 2 [(0, .ref (G.2.2 0)), (1, .int (iI x))] := hl
  obtain ⟨ht, hc, hln, hsc, hcn, hpi, hinj, hnm, hwd, hkn, has, hnx⟩ := hI
  refine lv_iload_n X.1 X.2.1 dX9_type_0 rfl (lv_at hl 1 rfl) ?_
  refine cl_i I (runS (As := [.int (iI x)]) (rest := []) X (k_X9_isLetter l G S  x  (by omega)) (gdC tb_330 gdB) tb_328 tb_329 tb_14 ⟨ok_X9_isLetter, ⟨Nat.le_of_ble_eq_true rfl, Nat.le_of_ble_eq_true rfl⟩, rfl, rfl⟩ (PreS.of I) rfl hl.1 rfl (Nat.le_of_ble_eq_true rfl) dX9_type_1 ⟨Nat.zero_le _, Nat.zero_le _⟩) (fun r1 S2 H locs q3 I => ?_)
  obtain ⟨e1_, e2_⟩ := q3
  rw [e2_] at I
  rw [e1_]
  clear e1_ e2_
  rcases Decidable.em (((97 ≤ (x) ∧ (x) ≤ 122) ∨ (65 ≤ (x) ∧ (x) ≤ 90))) with b4 | b4
  · rw [bI_t b4]
    refine rz_ne (tgt := 9) X (by omega) dX9_type_4 (by decide) (fun _ => ?_) (fun c5 => absurd c5 (by decide))
    have hw0 : 0 ≤ S.1 8 0 ∧ S.1 8 0 ≤ 6 := (hwd 0 (by decide)).1
    refine lv_aload_n X.1 X.2.1 dX9_type_9 rfl (lv_at hl 0 rfl) ?_
    refine gC_ns_typed X I tb_380 dX9_type_10 ?_
    refine gC_word_size X I (w := 0) (by decide) (v := (S.1 8 0)) rfl tb_142 dX9_type_13 ?_
    refine ri_push X (v := 6) (by decide) dX9_type_16 ?_
    refine rj_lt (tgt := 24) X (by omega) (by omega) dX9_type_18 (by decide) (fun c6 => ?_) (fun c6 => ?_)
    · skip
      refine lv_aload_n X.1 X.2.1 dX9_type_24 rfl (lv_at hl 0 rfl) ?_
      refine gC_ns_typed X I tb_380 dX9_type_25 ?_
      refine lv_iload_n X.1 X.2.1 dX9_type_28 rfl (lv_at hl 1 rfl) ?_
      refine ri_i2c X (by omega) dX9_type_29 ?_
      refine cl_v I (runV (As := [.int (iI x)]) (rest := []) X (k_X8_add l G S (0) x  (by omega) (by show 0 ≤ S.1 8 0 ∧ S.1 8 0 < 6; omega) (by omega)) (gdC tb_433 (gdC tb_434 (gdC tb_435 (gdC tb_19 (gdC tb_436 gdB))))) ⟨ok_X8_add, ⟨Nat.le_of_ble_eq_true rfl, Nat.le_of_ble_eq_true rfl⟩, rfl, rfl⟩ (PreV.of (C := RX8) (T := TX8) (N := 2) I (atC_word (w := 0) (by decide)) rfl) rfl hl.1 rfl (Nat.le_of_ble_eq_true rfl) dX9_type_30 ⟨Nat.zero_le _, Nat.zero_le _⟩) (fun S8 H locs q9 I => ?_)
      rw [q9] at I
      have I : In (KC G) s s.heap H locs ((ua (ua S.1 (16 + 0) (S.1 8 0) x) 8 0 ((S.1 8 0) + 1)), S.2) := I
      refine lv_aload_n X.1 X.2.1 dX9_type_33 rfl (lv_at hl 0 rfl) ?_
      refine gC_ns_typed X I tb_380 dX9_type_34 ?_
      refine gC_word_size X I (w := 0) (by decide) (v := ((S.1 8 0) + 1)) (by show (ua (ua S.1 (16 + 0) (S.1 8 0) x) 8 0 ((S.1 8 0) + 1)) 8 0 = _; rw [ua_eq]) tb_142 dX9_type_37 ?_
      exact rt_i X hr hlk I rfl (by exact Or.inr (Or.inr (⟨by omega, by omega, rfl, rfl⟩))) dX9_type_40
    · skip
      refine ri_push X (v := (-3)) (by decide) dX9_type_21 ?_
      exact rt_i X hr hlk I rfl (by exact Or.inr (Or.inl ⟨by omega, by omega, rfl, rfl⟩)) dX9_type_23
  · rw [bI_f b4]
    refine rz_ne (tgt := 9) X (by omega) dX9_type_4 (by decide) (fun c10 => absurd c10 (by decide)) (fun _ => ?_)
    refine ri_const X (v := (-1)) dX9_type_7 ?_
    exact rt_i X hr hlk I rfl (by exact Or.inl ⟨by omega, rfl, rfl⟩) dX9_type_8

theorem ok_X9_untype : yX9_untype.cls ≠ "java/lang/invoke/MethodHandle" ∧ yX9_untype.cls ≠ "java/lang/invoke/VarHandle" ∧ (parseMethodDescriptor yX9_untype.desc).map (fun d => d.parameters.length) = some 0 := ⟨by decide +kernel, by decide +kernel, by decide +kernel⟩
abbrev po_X9_untype (S : St)   : Int → St → Prop := fun r S1 => (S.1 8 0 = 0 ∧ r = -2 ∧ S1 = S) ∨ (0 < S.1 8 0 ∧ r = S.1 16 (S.1 8 0 - 1) ∧ S1 = (ua S.1 8 0 (S.1 8 0 - 1), S.2))
abbrev rm_X9_untype : Room := ({ frames := 1, cells := 0, slots := 0, locals := 20 } : Room)
set_option maxRecDepth 100000 in
set_option maxHeartbeats 4000000 in
theorem k_X9_untype (l : Launch) (G : Ge) (S : St)    (N_ : Int) (hI : CI S N_) : Ki (KC G) l yX9_untype cX9_untype 1 .int rm_X9_untype [.ref (G.2.2 0)] S (po_X9_untype S) := by
  refine K_start (own := "NameSeeker") (by decide +kernel) rfl (Nat.le_of_ble_eq_true rfl) ?_
  intro p e s m args below meth c X hr hlk I ls hl
  have hl : lv_has ls 1 [(0, .ref (G.2.2 0))] := hl
  obtain ⟨ht, hc, hln, hsc, hcn, hpi, hinj, hnm, hwd, hkn, has, hnx⟩ := hI
  refine lv_aload_n X.1 X.2.1 dX9_untype_0 rfl (lv_at hl 0 rfl) ?_
  refine gC_ns_typed X I tb_380 dX9_untype_1 ?_
  refine cl_i I (runV (As := []) (rest := []) X (k_X8_removeLast l G S (0)   (by omega) (hwd 0 (by decide)).1) (gdC tb_441 (gdC tb_442 (gdC tb_443 (gdC tb_19 (gdC tb_444 gdB))))) ⟨ok_X8_removeLast, ⟨Nat.le_of_ble_eq_true rfl, Nat.le_of_ble_eq_true rfl⟩, rfl, rfl⟩ (PreV.of (C := RX8) (T := TX8) (N := 2) I (atC_word (w := 0) (by decide)) rfl) rfl hl.1 rfl (Nat.le_of_ble_eq_true rfl) dX9_untype_4 ⟨Nat.zero_le _, Nat.zero_le _⟩) (fun r1 S2 H locs q3 I => ?_)
  rcases q3 with ⟨hr0, e1_, e2_⟩ | ⟨hr0, e1_, e2_⟩
  · rw [e2_] at I
    have I : In (KC G) s s.heap H locs S := I
    rw [e1_]
    exact rt_i X hr hlk I rfl (by first | exact Or.inl ⟨by assumption, rfl, rfl⟩ | exact Or.inr ⟨by assumption, rfl, rfl⟩) dX9_untype_7
  · rw [e2_] at I
    have I : In (KC G) s s.heap H locs ((ua S.1 8 0 ((S.1 8 0) - 1)), S.2) := I
    rw [e1_]
    exact rt_i X hr hlk I rfl (by first | exact Or.inl ⟨by assumption, rfl, rfl⟩ | exact Or.inr ⟨by assumption, rfl, rfl⟩) dX9_untype_7

theorem ok_X9_word : yX9_word.cls ≠ "java/lang/invoke/MethodHandle" ∧ yX9_word.cls ≠ "java/lang/invoke/VarHandle" ∧ (parseMethodDescriptor yX9_word.desc).map (fun d => d.parameters.length) = some 1 := ⟨by decide +kernel, by decide +kernel, by decide +kernel⟩
abbrev po_X9_word (S : St)  (x : Int) : Int → St → Prop := fun r S1 => r = (if x < -1 then -1 else if x = -1 then S.1 8 0 else if x < S.1 8 0 then S.1 16 x else -4) ∧ S1 = S
abbrev rm_X9_word : Room := ({ frames := 0, cells := 0, slots := 0, locals := 0 } : Room)
set_option maxRecDepth 100000 in
set_option maxHeartbeats 4000000 in
theorem k_X9_word (l : Launch) (G : Ge) (S : St)  (x : Int)  (hx : -2147483648 ≤ x ∧ x < 2147483648) (N_ : Int) (hI : CI S N_) : Ki (KC G) l yX9_word cX9_word 2 .int rm_X9_word [.ref (G.2.2 0), .int (iI x)] S (po_X9_word S x) := by
  refine K_start (own := "NameSeeker") (by decide +kernel) rfl (Nat.le_of_ble_eq_true rfl) ?_
  intro p e s m args below meth c X hr hlk I ls hl
  have hl : lv_has ls 2 [(0, .ref (G.2.2 0)), (1, .int (iI x))] := hl
  obtain ⟨ht, hc, hln, hsc, hcn, hpi, hinj, hnm, hwd, hkn, has, hnx⟩ := hI
  have hw0 : 0 ≤ S.1 8 0 ∧ S.1 8 0 ≤ 6 := (hwd 0 (by decide)).1
  refine lv_iload_n X.1 X.2.1 dX9_word_0 rfl (lv_at hl 1 rfl) ?_
  refine ri_const X (v := (-1)) dX9_word_1 ?_
  refine rj_ge (tgt := 7) X (by omega) (by omega) dX9_word_2 (by decide) (fun c1 => ?_) (fun c1 => ?_)
  · skip
    refine lv_iload_n X.1 X.2.1 dX9_word_7 rfl (lv_at hl 1 rfl) ?_
    refine ri_const X (v := (-1)) dX9_word_8 ?_
    refine rj_ne (tgt := 20) X (by omega) (by omega) dX9_word_9 (by decide) (fun c2 => ?_) (fun c2 => ?_)
    · skip
      refine lv_iload_n X.1 X.2.1 dX9_word_20 rfl (lv_at hl 1 rfl) ?_
      refine lv_aload_n X.1 X.2.1 dX9_word_21 rfl (lv_at hl 0 rfl) ?_
      refine gC_ns_typed X I tb_380 dX9_word_22 ?_
      refine gC_word_size X I (w := 0) (by decide) (v := (S.1 8 0)) rfl tb_142 dX9_word_25 ?_
      refine rj_ge (tgt := 43) X (by omega) (by omega) dX9_word_28 (by decide) (fun c3 => ?_) (fun c3 => ?_)
      · skip
        refine ri_push X (v := (-4)) (by decide) dX9_word_43 ?_
        exact rt_i X hr hlk I rfl (by first | (refine ⟨?_, rfl⟩; (first | rw [if_pos (by omega)] | rw [if_neg (by omega), if_pos (by omega)] | rw [if_neg (by omega), if_neg (by omega), if_pos (by omega)] | rw [if_neg (by omega), if_neg (by omega), if_neg (by omega)]); done) | (exfalso; omega)) dX9_word_45
      · skip
        refine lv_aload_n X.1 X.2.1 dX9_word_31 rfl (lv_at hl 0 rfl) ?_
        refine gC_ns_typed X I tb_380 dX9_word_32 ?_
        refine gC_word_letters X I (w := 0) (by decide) tb_139 dX9_word_35 ?_
        refine lv_iload_n X.1 X.2.1 dX9_word_38 rfl (lv_at hl 1 rfl) ?_
        refine aC_word X I (w := 0) (by decide) (v := (S.1 (16 + 0) x)) rfl (by omega) dX9_word_39 ?_
        refine lv_goto (tgt := 45) X.1 X.2.1 dX9_word_40 (by decide) ?_
        exact rt_i X hr hlk I rfl (by first | (refine ⟨?_, rfl⟩; (first | rw [if_pos (by omega)] | rw [if_neg (by omega), if_pos (by omega)] | rw [if_neg (by omega), if_neg (by omega), if_pos (by omega)] | rw [if_neg (by omega), if_neg (by omega), if_neg (by omega)]); done) | (exfalso; omega)) dX9_word_45
    · skip
      refine lv_aload_n X.1 X.2.1 dX9_word_12 rfl (lv_at hl 0 rfl) ?_
      refine gC_ns_typed X I tb_380 dX9_word_13 ?_
      refine gC_word_size X I (w := 0) (by decide) (v := (S.1 8 0)) rfl tb_142 dX9_word_16 ?_
      exact rt_i X hr hlk I rfl (by first | (refine ⟨?_, rfl⟩; (first | rw [if_pos (by omega)] | rw [if_neg (by omega), if_pos (by omega)] | rw [if_neg (by omega), if_neg (by omega), if_pos (by omega)] | rw [if_neg (by omega), if_neg (by omega), if_neg (by omega)]); done) | (exfalso; omega)) dX9_word_19
  · skip
    refine ri_const X (v := (-1)) dX9_word_5 ?_
    exact rt_i X hr hlk I rfl (by first | (refine ⟨?_, rfl⟩; (first | rw [if_pos (by omega)] | rw [if_neg (by omega), if_pos (by omega)] | rw [if_neg (by omega), if_neg (by omega), if_pos (by omega)] | rw [if_neg (by omega), if_neg (by omega), if_neg (by omega)]); done) | (exfalso; omega)) dX9_word_6

theorem ok_X9_pick : yX9_pick.cls ≠ "java/lang/invoke/MethodHandle" ∧ yX9_pick.cls ≠ "java/lang/invoke/VarHandle" ∧ (parseMethodDescriptor yX9_pick.desc).map (fun d => d.parameters.length) = some 1 := ⟨by decide +kernel, by decide +kernel, by decide +kernel⟩
abbrev po_X9_pick (S : St)  (x : Int) : Int → St → Prop := fun r S1 => (¬ (0 ≤ x ∧ x < S.1 51 0) ∧ r = -1 ∧ S1 = S) ∨ ((0 ≤ x ∧ x < S.1 51 0) ∧ r = S.1 57 0 + 1 ∧ S1 = (ua (us S.1 57 (S.1 57 0 + 1)) 5 ((S.2 x.toNat : Nat) : Int) (S.1 57 0 + 1), S.2))
abbrev rm_X9_pick : Room := ({ frames := 1, cells := 0, slots := 0, locals := 21 } : Room)
set_option maxRecDepth 100000 in
set_option maxHeartbeats 4000000 in
theorem k_X9_pick (l : Launch) (G : Ge) (S : St)  (x : Int)  (hx : -2147483648 ≤ x ∧ x < 2147483648) (N_ : Int) (hI : CI S N_) : Ki (KC G) l yX9_pick cX9_pick 2 .int rm_X9_pick [.ref (G.2.2 0), .int (iI x)] S (po_X9_pick S x) := by
  refine K_start (own := "NameSeeker") (by decide +kernel) rfl (Nat.le_of_ble_eq_true rfl) ?_
  intro p e s m args below meth c X hr hlk I ls hl
  have hl : lv_has ls 2 [(0, .ref (G.2.2 0)), (1, .int (iI x))] := hl
  obtain ⟨ht, hc, hln, hsc, hcn, hpi, hinj, hnm, hwd, hkn, has, hnx⟩ := hI
  refine lv_aload_n X.1 X.2.1 dX9_pick_0 rfl (lv_at hl 0 rfl) ?_
  refine gC_ns_lot X I tb_378 dX9_pick_1 ?_
  refine lv_iload_n X.1 X.2.1 dX9_pick_4 rfl (lv_at hl 1 rfl) ?_
  refine cl_i I (runV (As := [.int (iI x)]) (rest := []) X (k_X3_has l G S  x (S.1 51 0) rfl (by omega) (by omega)) (gdC tb_425 (gdC tb_426 (gdC tb_427 (gdC tb_16 (gdC tb_428 gdB))))) ⟨ok_X3_has, ⟨Nat.le_of_ble_eq_true rfl, Nat.le_of_ble_eq_true rfl⟩, rfl, rfl⟩ (PreV.of (C := RX3) (T := TX3) (N := 3) I (atC_lot) rfl) rfl hl.1 rfl (Nat.le_of_ble_eq_true rfl) dX9_pick_5 ⟨Nat.zero_le _, Nat.zero_le _⟩) (fun r1 S2 H locs q3 I => ?_)
  obtain ⟨e1_, e2_⟩ := q3
  rw [e2_] at I
  rw [e1_]
  clear e1_ e2_
  rcases Decidable.em ((0 ≤ x ∧ x < (S.1 51 0))) with b4 | b4
  · rw [bI_t b4]
    refine rz_ne (tgt := 13) X (by omega) dX9_pick_8 (by decide) (fun _ => ?_) (fun c5 => absurd c5 (by decide))
    refine lv_aload_n X.1 X.2.1 dX9_pick_13 rfl (lv_at hl 0 rfl) ?_
    refine lv_dup X.1 X.2.1 dX9_pick_14 rfl ?_
    refine gC_ns_tick X I (v := (S.1 57 0)) rfl tb_388 dX9_pick_15 ?_
    refine ri_const X (v := 1) dX9_pick_18 ?_
    refine ri_add X (v := ((S.1 57 0) + 1)) rfl dX9_pick_19 ?_
    refine pC_ns_tick X I tb_388 dX9_pick_20 (fun H locs I => ?_)
    have I : In (KC G) s s.heap H locs ((us S.1 57 ((S.1 57 0) + 1)), S.2) := I
    refine lv_aload_n X.1 X.2.1 dX9_pick_23 rfl (lv_at hl 0 rfl) ?_
    refine gC_ns_lot X I tb_378 dX9_pick_24 ?_
    refine gC_lot_names X I tb_99 dX9_pick_27 ?_
    refine lv_iload_n X.1 X.2.1 dX9_pick_30 rfl (lv_at hl 1 rfl) ?_
    refine aC_names X I (by omega) dX9_pick_31 ?_
    refine lv_aload_n X.1 X.2.1 dX9_pick_32 rfl (lv_at hl 0 rfl) ?_
    refine gC_ns_tick X I (v := ((S.1 57 0) + 1)) (by show (us S.1 57 ((S.1 57 0) + 1)) 57 0 = _; rw [us_eq]) tb_388 dX9_pick_33 ?_
    refine pC_name_picked X I (j := (S.2 x.toNat)) (hpi _ (by omega)) tb_77 dX9_pick_36 (fun H locs I => ?_)
    have I : In (KC G) s s.heap H locs ((ua (us S.1 57 ((S.1 57 0) + 1)) 5 (((S.2 x.toNat) : Nat) : Int) ((S.1 57 0) + 1)), S.2) := I
    refine lv_aload_n X.1 X.2.1 dX9_pick_39 rfl (lv_at hl 0 rfl) ?_
    refine gC_ns_tick X I (v := ((S.1 57 0) + 1)) (by show (ua (us S.1 57 ((S.1 57 0) + 1)) 5 (((S.2 x.toNat) : Nat) : Int) ((S.1 57 0) + 1)) 57 0 = _; rw [ua_nc (by decide), us_eq]) tb_388 dX9_pick_40 ?_
    exact rt_i X hr hlk I rfl (by exact Or.inr (⟨by omega, rfl, rfl⟩)) dX9_pick_43
  · rw [bI_f b4]
    refine rz_ne (tgt := 13) X (by omega) dX9_pick_8 (by decide) (fun c6 => absurd c6 (by decide)) (fun _ => ?_)
    refine ri_const X (v := (-1)) dX9_pick_11 ?_
    exact rt_i X hr hlk I rfl (by exact Or.inl ⟨by omega, rfl, rfl⟩) dX9_pick_12

theorem ok_X9_asked : yX9_asked.cls ≠ "java/lang/invoke/MethodHandle" ∧ yX9_asked.cls ≠ "java/lang/invoke/VarHandle" ∧ (parseMethodDescriptor yX9_asked.desc).map (fun d => d.parameters.length) = some 1 := ⟨by decide +kernel, by decide +kernel, by decide +kernel⟩
abbrev po_X9_asked (S : St)  (x : Int) : Int → St → Prop := fun r S1 => r = (if ¬ (0 ≤ x ∧ x < 6) then -1 else if x < S.1 63 0 then S.1 14 x % 100003 else -4) ∧ S1 = S
abbrev rm_X9_asked : Room := ({ frames := 0, cells := 0, slots := 0, locals := 0 } : Room)
set_option maxRecDepth 100000 in
set_option maxHeartbeats 4000000 in
theorem k_X9_asked (l : Launch) (G : Ge) (S : St)  (x : Int)  (hx : -2147483648 ≤ x ∧ x < 2147483648) (N_ : Int) (hI : CI S N_) : Ki (KC G) l yX9_asked cX9_asked 2 .int rm_X9_asked [.ref (G.2.2 0), .int (iI x)] S (po_X9_asked S x) := by
  refine K_start (own := "NameSeeker") (by decide +kernel) rfl (Nat.le_of_ble_eq_true rfl) ?_
  intro p e s m args below meth c X hr hlk I ls hl
  have hl : lv_has ls 2 [(0, .ref (G.2.2 0)), (1, .int (iI x))] := hl
  obtain ⟨ht, hc, hln, hsc, hcn, hpi, hinj, hnm, hwd, hkn, has, hnx⟩ := hI
  refine lv_iload_n X.1 X.2.1 dX9_asked_0 rfl (lv_at hl 1 rfl) ?_
  refine rz_lt (tgt := 10) X (by omega) dX9_asked_1 (by decide) (fun c1 => ?_) (fun c1 => ?_)
  · skip
    refine ri_const X (v := (-1)) dX9_asked_10 ?_
    exact rt_i X hr hlk I rfl (by first | (refine ⟨?_, rfl⟩; (first | rw [if_pos (by omega)] | rw [if_neg (by omega), if_pos (by omega)] | rw [if_neg (by omega), if_neg (by omega)]); done) | (exfalso; omega)) dX9_asked_11
  · skip
    refine lv_iload_n X.1 X.2.1 dX9_asked_4 rfl (lv_at hl 1 rfl) ?_
    refine ri_push X (v := 6) (by decide) dX9_asked_5 ?_
    refine rj_lt (tgt := 12) X (by omega) (by omega) dX9_asked_7 (by decide) (fun c2 => ?_) (fun c2 => ?_)
    · skip
      refine lv_iload_n X.1 X.2.1 dX9_asked_12 rfl (lv_at hl 1 rfl) ?_
      refine lv_aload_n X.1 X.2.1 dX9_asked_13 rfl (lv_at hl 0 rfl) ?_
      refine gC_ns_askedCodes X I tb_385 dX9_asked_14 ?_
      refine gC_asked_size X I (v := (S.1 63 0)) rfl tb_209 dX9_asked_17 ?_
      refine rj_ge (tgt := 40) X (by omega) (by omega) dX9_asked_20 (by decide) (fun c3 => ?_) (fun c3 => ?_)
      · skip
        refine ri_push X (v := (-4)) (by decide) dX9_asked_40 ?_
        exact rt_i X hr hlk I rfl (by first | (refine ⟨?_, rfl⟩; (first | rw [if_pos (by omega)] | rw [if_neg (by omega), if_pos (by omega)] | rw [if_neg (by omega), if_neg (by omega)]); done) | (exfalso; omega)) dX9_asked_42
      · skip
        have hax := has x (by omega) (by omega)
        refine lv_aload_n X.1 X.2.1 dX9_asked_23 rfl (lv_at hl 0 rfl) ?_
        refine gC_ns_askedCodes X I tb_385 dX9_asked_24 ?_
        refine gC_asked_codes X I tb_207 dX9_asked_27 ?_
        refine lv_iload_n X.1 X.2.1 dX9_asked_30 rfl (lv_at hl 1 rfl) ?_
        refine aC_acodes X I (v := (S.1 14 x)) rfl (by omega) dX9_asked_31 ?_
        refine ri_ldc2 X (v := 100003) tb_480 rfl dX9_asked_32 ?_
        refine ri_lrem X (v := ((S.1 14 x) % 100003)) rfl (by omega) (by omega) dX9_asked_35 ?_
        refine ri_l2i X dX9_asked_36 ?_
        refine lv_goto (tgt := 42) X.1 X.2.1 dX9_asked_37 (by decide) ?_
        exact rt_i X hr hlk I rfl (by first | (refine ⟨?_, rfl⟩; (first | rw [if_pos (by omega)] | rw [if_neg (by omega), if_pos (by omega)] | rw [if_neg (by omega), if_neg (by omega)]); done) | (exfalso; omega)) dX9_asked_42
    · skip
      refine ri_const X (v := (-1)) dX9_asked_10 ?_
      exact rt_i X hr hlk I rfl (by first | (refine ⟨?_, rfl⟩; (first | rw [if_pos (by omega)] | rw [if_neg (by omega), if_pos (by omega)] | rw [if_neg (by omega), if_neg (by omega)]); done) | (exfalso; omega)) dX9_asked_11
