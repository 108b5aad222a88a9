theorem rot_s {S2 P : Nat → Nat} {x k : Int} (hx : 0 ≤ x ∧ x + 1 ≤ k) (hP : ∀ i : Nat, P i = if x.toNat ≤ i ∧ i < (k - 1).toNat then S2 (i + 1) else S2 i) (i : Nat) : upN P (k - 1).toNat (P k.toNat) i = if x.toNat ≤ i ∧ i < (k + 1 - 1).toNat then S2 (i + 1) else S2 i := by
  unfold upN
  by_cases hi : i = (k - 1).toNat
  · rw [if_pos hi, if_pos (by omega), hP, if_neg (by omega)]; congr 1; omega
  · rw [if_neg hi, hP i]
    by_cases h : x.toNat ≤ i ∧ i < (k - 1).toNat
    · rw [if_pos h, if_pos (by omega)]
    · rw [if_neg h, if_neg (by omega)]
def rotP (f : Nat → Nat) (x e : Nat) : Nat → Nat := fun i => if i = e then f x else if x ≤ i ∧ i < e then f (i + 1) else f i

theorem ok_X1_placeOf : yX1_placeOf.cls ≠ "java/lang/invoke/MethodHandle" ∧ yX1_placeOf.cls ≠ "java/lang/invoke/VarHandle" ∧ (parseMethodDescriptor yX1_placeOf.desc).map (fun d => d.parameters.length) = some 3 := ⟨by decide +kernel, by decide +kernel, by decide +kernel⟩
abbrev po_X1_placeOf (S : St)  (x : Int) (u : Int) (z : Int) : Int → St → Prop := fun r S1 => r = ((31 * x + 7 * u) + z) % 32 ∧ S1 = S
abbrev rm_X1_placeOf : Room := ({ frames := 0, cells := 0, slots := 0, locals := 0 } : Room)
set_option maxRecDepth 100000 in
set_option maxHeartbeats 4000000 in
theorem k_X1_placeOf (l : Launch) (G : Ge) (S : St)  (x : Int) (u : Int) (z : Int)  (hx : 0 ≤ x ∧ x ≤ 100000) (hu : 0 ≤ u ∧ u < 1099511627776) (hz : 0 ≤ z ∧ z ≤ 100000) : Ki (KC G) l yX1_placeOf cX1_placeOf 4 .int rm_X1_placeOf [.int (iI x), .long (lI u), .int (iI z)] S (po_X1_placeOf S x u z) := by
  refine K_start (own := "NameSeeker$Known") (by decide +kernel) rfl (Nat.le_of_ble_eq_true rfl) ?_
  intro p e s m args below meth c X hr hlk I ls hl
  have hl : lv_has ls 4 [(0, .int (iI x)), (1, .long (lI u)), (3, .int (iI z))] := hl
  refine ri_ldc2 X (v := 31) tb_549 rfl dX1_placeOf_0 ?_
  refine lv_iload_n X.1 X.2.1 dX1_placeOf_3 rfl (lv_at hl 0 rfl) ?_
  refine ri_i2l X (by omega) dX1_placeOf_4 ?_
  refine ri_lmul X (v := (31 * x)) rfl dX1_placeOf_5 ?_
  refine ri_ldc2 X (v := 7) tb_550 rfl dX1_placeOf_6 ?_
  refine lv_lload_n X.1 X.2.1 dX1_placeOf_9 rfl (lv_at hl 1 rfl) ?_
  refine ri_lmul X (v := (7 * u)) rfl dX1_placeOf_10 ?_
  refine ri_ladd X (v := ((31 * x) + (7 * u))) rfl dX1_placeOf_11 ?_
  refine lv_iload_n X.1 X.2.1 dX1_placeOf_12 rfl (lv_at hl 2 rfl) ?_
  refine ri_i2l X (by omega) dX1_placeOf_13 ?_
  refine ri_ladd X (v := (((31 * x) + (7 * u)) + z)) rfl dX1_placeOf_14 ?_
  refine ri_ldc2 X (v := 31) tb_549 rfl dX1_placeOf_15 ?_
  refine ri_land X (by omega) dX1_placeOf_18 ?_
  refine ri_l2i X dX1_placeOf_19 ?_
  exact rt_i X hr hlk I rfl (by exact ⟨rfl, rfl⟩) dX1_placeOf_20

theorem ok_X1_holds : yX1_holds.cls ≠ "java/lang/invoke/MethodHandle" ∧ yX1_holds.cls ≠ "java/lang/invoke/VarHandle" ∧ (parseMethodDescriptor yX1_holds.desc).map (fun d => d.parameters.length) = some 4 := ⟨by decide +kernel, by decide +kernel, by decide +kernel⟩
abbrev po_X1_holds (S : St)  (q : Int) (x : Int) (u : Int) (z : Int) (d0 : Int) (d1 : Int) (d2 : Int) : Int → St → Prop := fun r S1 => r = bI (d0 = x ∧ d1 = u ∧ d2 = z) ∧ S1 = S
abbrev rm_X1_holds : Room := ({ frames := 0, cells := 0, slots := 0, locals := 0 } : Room)
set_option maxRecDepth 100000 in
set_option maxHeartbeats 4000000 in
theorem k_X1_holds (l : Launch) (G : Ge) (S : St)  (q : Int) (x : Int) (u : Int) (z : Int) (d0 : Int) (d1 : Int) (d2 : Int) (e_d0 : S.1 10 q = d0) (e_d1 : S.1 11 q = d1) (e_d2 : S.1 12 q = d2) (hq : 0 ≤ q ∧ q < 32) (hx : 0 ≤ x ∧ x ≤ 100000) (hu : 0 ≤ u ∧ u < 1099511627776) (hz : 0 ≤ z ∧ z ≤ 100000) (hd : (-100000 ≤ d0 ∧ d0 ≤ 100000) ∧ (0 ≤ d1 ∧ d1 < 1099511627776) ∧ (0 ≤ d2 ∧ d2 ≤ 100000)) : Ki (KC G) l yX1_holds cX1_holds 6 .boolean rm_X1_holds [.ref (G.2.2 31), .int (iI q), .int (iI x), .long (lI u), .int (iI z)] S (po_X1_holds S q x u z d0 d1 d2) := by
  refine K_start (own := "NameSeeker$Known") (by decide +kernel) rfl (Nat.le_of_ble_eq_true rfl) ?_
  intro p e s m args below meth c X hr hlk I ls hl
  have hl : lv_has ls 6 [(0, .ref (G.2.2 31)), (1, .int (iI q)), (2, .int (iI x)), (3, .long (lI u)), (5, .int (iI z))] := hl
  refine lv_aload_n X.1 X.2.1 dX1_holds_0 rfl (lv_at hl 0 rfl) ?_
  refine gC_known_ids X I tb_177 dX1_holds_1 ?_
  refine lv_iload_n X.1 X.2.1 dX1_holds_4 rfl (lv_at hl 1 rfl) ?_
  refine aC_ids X I (v := d0) e_d0 (by omega) dX1_holds_5 ?_
  refine lv_iload_n X.1 X.2.1 dX1_holds_6 rfl (lv_at hl 2 rfl) ?_
  refine rj_ne (tgt := 36) X (by omega) (by omega) dX1_holds_7 (by decide) (fun c1 => ?_) (fun c1 => ?_)
  · skip
    refine ri_const X (v := 0) dX1_holds_36 ?_
    exact rt_i X hr hlk I (by rfl) (by refine ⟨(bI_f ?_).symm, rfl⟩; omega) dX1_holds_37
  · skip
    refine lv_aload_n X.1 X.2.1 dX1_holds_10 rfl (lv_at hl 0 rfl) ?_
    refine gC_known_codes X I tb_178 dX1_holds_11 ?_
    refine lv_iload_n X.1 X.2.1 dX1_holds_14 rfl (lv_at hl 1 rfl) ?_
    refine aC_kcodes X I (v := d1) e_d1 (by omega) dX1_holds_15 ?_
    refine lv_lload_n X.1 X.2.1 dX1_holds_16 rfl (lv_at hl 3 rfl) ?_
    refine rl_ne (tgt := 36) X (by omega) (by omega) dX1_holds_17 dX1_holds_18 (by decide) (fun c2 => ?_) (fun c2 => ?_)
    · skip
      refine ri_const X (v := 0) dX1_holds_36 ?_
      exact rt_i X hr hlk I (by rfl) (by refine ⟨(bI_f ?_).symm, rfl⟩; omega) dX1_holds_37
    · skip
      refine lv_aload_n X.1 X.2.1 dX1_holds_21 rfl (lv_at hl 0 rfl) ?_
      refine gC_known_ages X I tb_179 dX1_holds_22 ?_
      refine lv_iload_n X.1 X.2.1 dX1_holds_25 rfl (lv_at hl 1 rfl) ?_
      refine aC_ages X I (v := d2) e_d2 (by omega) dX1_holds_26 ?_
      refine lv_iload X.1 X.2.1 dX1_holds_27 (lv_at hl 4 rfl) ?_
      refine rj_ne (tgt := 36) X (by omega) (by omega) dX1_holds_29 (by decide) (fun c3 => ?_) (fun c3 => ?_)
      · skip
        refine ri_const X (v := 0) dX1_holds_36 ?_
        exact rt_i X hr hlk I (by rfl) (by refine ⟨(bI_f ?_).symm, rfl⟩; omega) dX1_holds_37
      · skip
        refine ri_const X (v := 1) dX1_holds_32 ?_
        refine lv_goto (tgt := 37) X.1 X.2.1 dX1_holds_33 (by decide) ?_
        exact rt_i X hr hlk I (by rfl) (by refine ⟨(bI_t ?_).symm, rfl⟩; omega) dX1_holds_37

theorem ok_X1_put : yX1_put.cls ≠ "java/lang/invoke/MethodHandle" ∧ yX1_put.cls ≠ "java/lang/invoke/VarHandle" ∧ (parseMethodDescriptor yX1_put.desc).map (fun d => d.parameters.length) = some 5 := ⟨by decide +kernel, by decide +kernel, by decide +kernel⟩
abbrev po_X1_put (S : St)  (q : Int) (x : Int) (u : Int) (z : Int) (y : Int) : St → Prop := fun S1 => S1 = (ua (ua (ua (ua S.1 10 q x) 11 q u) 12 q z) 13 q y, S.2)
abbrev rm_X1_put : Room := ({ frames := 0, cells := 0, slots := 0, locals := 0 } : Room)
set_option maxRecDepth 100000 in
set_option maxHeartbeats 4000000 in
theorem k_X1_put (l : Launch) (G : Ge) (S : St)  (q : Int) (x : Int) (u : Int) (z : Int) (y : Int)  (hq : 0 ≤ q ∧ q < 32) : Kv (KC G) l yX1_put cX1_put 7 rm_X1_put [.ref (G.2.2 31), .int (iI q), .int (iI x), .long (lI u), .int (iI z), .int (iI y)] S (po_X1_put S q x u z y) := by
  refine K_start (own := "NameSeeker$Known") (by decide +kernel) rfl (Nat.le_of_ble_eq_true rfl) ?_
  intro p e s m args below meth c X hr hlk I ls hl
  have hl : lv_has ls 7 [(0, .ref (G.2.2 31)), (1, .int (iI q)), (2, .int (iI x)), (3, .long (lI u)), (5, .int (iI z)), (6, .int (iI y))] := hl
  refine lv_aload_n X.1 X.2.1 dX1_put_0 rfl (lv_at hl 0 rfl) ?_
  refine gC_known_ids X I tb_177 dX1_put_1 ?_
  refine lv_iload_n X.1 X.2.1 dX1_put_4 rfl (lv_at hl 1 rfl) ?_
  refine lv_iload_n X.1 X.2.1 dX1_put_5 rfl (lv_at hl 2 rfl) ?_
  refine qC_ids X I (by omega) dX1_put_6 (fun H locs I => ?_)
  have I : In (KC G) s s.heap H locs ((ua S.1 10 q x), S.2) := I
  refine lv_aload_n X.1 X.2.1 dX1_put_7 rfl (lv_at hl 0 rfl) ?_
  refine gC_known_codes X I tb_178 dX1_put_8 ?_
  refine lv_iload_n X.1 X.2.1 dX1_put_11 rfl (lv_at hl 1 rfl) ?_
  refine lv_lload_n X.1 X.2.1 dX1_put_12 rfl (lv_at hl 3 rfl) ?_
  refine qC_kcodes X I (by omega) dX1_put_13 (fun H locs I => ?_)
  have I : In (KC G) s s.heap H locs ((ua (ua S.1 10 q x) 11 q u), S.2) := I
  refine lv_aload_n X.1 X.2.1 dX1_put_14 rfl (lv_at hl 0 rfl) ?_
  refine gC_known_ages X I tb_179 dX1_put_15 ?_
  refine lv_iload_n X.1 X.2.1 dX1_put_18 rfl (lv_at hl 1 rfl) ?_
  refine lv_iload X.1 X.2.1 dX1_put_19 (lv_at hl 4 rfl) ?_
  refine qC_ages X I (by omega) dX1_put_21 (fun H locs I => ?_)
  have I : In (KC G) s s.heap H locs ((ua (ua (ua S.1 10 q x) 11 q u) 12 q z), S.2) := I
  refine lv_aload_n X.1 X.2.1 dX1_put_22 rfl (lv_at hl 0 rfl) ?_
  refine gC_known_scores X I tb_180 dX1_put_23 ?_
  refine lv_iload_n X.1 X.2.1 dX1_put_26 rfl (lv_at hl 1 rfl) ?_
  refine lv_iload X.1 X.2.1 dX1_put_27 (lv_at hl 5 rfl) ?_
  refine qC_kscores X I (by omega) dX1_put_29 (fun H locs I => ?_)
  have I : In (KC G) s s.heap H locs ((ua (ua (ua (ua S.1 10 q x) 11 q u) 12 q z) 13 q y), S.2) := I
  exact rt_v X hr hlk I (by exact rfl) dX1_put_30

theorem ok_X0_add : yX0_add.cls ≠ "java/lang/invoke/MethodHandle" ∧ yX0_add.cls ≠ "java/lang/invoke/VarHandle" ∧ (parseMethodDescriptor yX0_add.desc).map (fun d => d.parameters.length) = some 1 := ⟨by decide +kernel, by decide +kernel, by decide +kernel⟩
abbrev po_X0_add (S : St)  (u : Int) : St → Prop := fun S1 => S1 = ((us (ua (ua (ua (ua (ua (ua S.1 14 5 (S.1 14 4)) 14 4 (S.1 14 3)) 14 3 (S.1 14 2)) 14 2 (S.1 14 1)) 14 1 (S.1 14 0)) 14 0 u) 63 (if 6 < ((S.1 63 0) + 1) then 6 else ((S.1 63 0) + 1))), S.2)
abbrev rm_X0_add : Room := ({ frames := 1, cells := 0, slots := 0, locals := 30 } : Room)
set_option maxRecDepth 100000 in
set_option maxHeartbeats 4000000 in
theorem k_X0_add (l : Launch) (G : Ge) (S : St)  (u : Int)  (hz : 0 ≤ S.1 63 0 ∧ S.1 63 0 ≤ 6) : Kv (KC G) l yX0_add cX0_add 4 rm_X0_add [.ref (G.2.2 36), .long (lI u)] S (po_X0_add S u) := by
  refine K_start (own := "NameSeeker$Asked") (by decide +kernel) rfl (Nat.le_of_ble_eq_true rfl) ?_
  intro p e s m args below meth c X hr hlk I ls hl
  have hl : lv_has ls 4 [(0, .ref (G.2.2 36)), (1, .long (lI u))] := hl
  refine ri_const X (v := 5) dX0_add_0 ?_
  refine lv_istore_n (lv' := [(3, .int (iI 5)), (0, .ref (G.2.2 36)), (1, .long (lI u))]) X.1 X.2.1 dX0_add_1 rfl hl (by decide) rfl (fun ls hl => ?_)
  refine lv_iload_n X.1 X.2.1 dX0_add_2 rfl (lv_at hl 0 rfl) ?_
  refine rz_le (tgt := 26) X (by omega) dX0_add_3 (by decide) (fun c1 => absurd c1 (by decide)) (fun _ => ?_)
  refine lv_aload_n X.1 X.2.1 dX0_add_6 rfl (lv_at hl 1 rfl) ?_
  refine gC_asked_codes X I tb_206 dX0_add_7 ?_
  refine lv_iload_n X.1 X.2.1 dX0_add_10 rfl (lv_at hl 0 rfl) ?_
  refine lv_aload_n X.1 X.2.1 dX0_add_11 rfl (lv_at hl 1 rfl) ?_
  refine gC_asked_codes X I tb_206 dX0_add_12 ?_
  refine lv_iload_n X.1 X.2.1 dX0_add_15 rfl (lv_at hl 0 rfl) ?_
  refine ri_const X (v := 1) dX0_add_16 ?_
  refine ri_sub X (v := 4) (by decide) dX0_add_17 ?_
  refine aC_acodes X I (v := (S.1 14 4)) rfl (by omega) dX0_add_18 ?_
  refine qC_acodes X I (by omega) dX0_add_19 (fun H locs I => ?_)
  have I : In (KC G) s s.heap H locs ((ua S.1 14 5 (S.1 14 4)), S.2) := I
  refine ri_iinc X (k := 0) (v := 4) (lv' := [(3, .int (iI 4)), (0, .ref (G.2.2 36)), (1, .long (lI u))]) (by decide) dX0_add_20 hl rfl (by decide) rfl (fun ls hl => ?_)
  refine lv_goto (tgt := 2) X.1 X.2.1 dX0_add_23 (by decide) ?_
  refine lv_iload_n X.1 X.2.1 dX0_add_2 rfl (lv_at hl 0 rfl) ?_
  refine rz_le (tgt := 26) X (by omega) dX0_add_3 (by decide) (fun c2 => absurd c2 (by decide)) (fun _ => ?_)
  refine lv_aload_n X.1 X.2.1 dX0_add_6 rfl (lv_at hl 1 rfl) ?_
  refine gC_asked_codes X I tb_206 dX0_add_7 ?_
  refine lv_iload_n X.1 X.2.1 dX0_add_10 rfl (lv_at hl 0 rfl) ?_
  refine lv_aload_n X.1 X.2.1 dX0_add_11 rfl (lv_at hl 1 rfl) ?_
  refine gC_asked_codes X I tb_206 dX0_add_12 ?_
  refine lv_iload_n X.1 X.2.1 dX0_add_15 rfl (lv_at hl 0 rfl) ?_
  refine ri_const X (v := 1) dX0_add_16 ?_
  refine ri_sub X (v := 3) (by decide) dX0_add_17 ?_
  refine aC_acodes X I (v := (S.1 14 3)) (by (try dsimp only); rw [ua_ni (by decide)]) (by omega) dX0_add_18 ?_
  refine qC_acodes X I (by omega) dX0_add_19 (fun H locs I => ?_)
  have I : In (KC G) s s.heap H locs ((ua (ua S.1 14 5 (S.1 14 4)) 14 4 (S.1 14 3)), S.2) := I
  refine ri_iinc X (k := 0) (v := 3) (lv' := [(3, .int (iI 3)), (0, .ref (G.2.2 36)), (1, .long (lI u))]) (by decide) dX0_add_20 hl rfl (by decide) rfl (fun ls hl => ?_)
  refine lv_goto (tgt := 2) X.1 X.2.1 dX0_add_23 (by decide) ?_
  refine lv_iload_n X.1 X.2.1 dX0_add_2 rfl (lv_at hl 0 rfl) ?_
  refine rz_le (tgt := 26) X (by omega) dX0_add_3 (by decide) (fun c3 => absurd c3 (by decide)) (fun _ => ?_)
  refine lv_aload_n X.1 X.2.1 dX0_add_6 rfl (lv_at hl 1 rfl) ?_
  refine gC_asked_codes X I tb_206 dX0_add_7 ?_
  refine lv_iload_n X.1 X.2.1 dX0_add_10 rfl (lv_at hl 0 rfl) ?_
  refine lv_aload_n X.1 X.2.1 dX0_add_11 rfl (lv_at hl 1 rfl) ?_
  refine gC_asked_codes X I tb_206 dX0_add_12 ?_
  refine lv_iload_n X.1 X.2.1 dX0_add_15 rfl (lv_at hl 0 rfl) ?_
  refine ri_const X (v := 1) dX0_add_16 ?_
  refine ri_sub X (v := 2) (by decide) dX0_add_17 ?_
  refine aC_acodes X I (v := (S.1 14 2)) (by (try dsimp only); rw [ua_ni (by decide), ua_ni (by decide)]) (by omega) dX0_add_18 ?_
  refine qC_acodes X I (by omega) dX0_add_19 (fun H locs I => ?_)
  have I : In (KC G) s s.heap H locs ((ua (ua (ua S.1 14 5 (S.1 14 4)) 14 4 (S.1 14 3)) 14 3 (S.1 14 2)), S.2) := I
  refine ri_iinc X (k := 0) (v := 2) (lv' := [(3, .int (iI 2)), (0, .ref (G.2.2 36)), (1, .long (lI u))]) (by decide) dX0_add_20 hl rfl (by decide) rfl (fun ls hl => ?_)
  refine lv_goto (tgt := 2) X.1 X.2.1 dX0_add_23 (by decide) ?_
  refine lv_iload_n X.1 X.2.1 dX0_add_2 rfl (lv_at hl 0 rfl) ?_
  refine rz_le (tgt := 26) X (by omega) dX0_add_3 (by decide) (fun c4 => absurd c4 (by decide)) (fun _ => ?_)
  refine lv_aload_n X.1 X.2.1 dX0_add_6 rfl (lv_at hl 1 rfl) ?_
  refine gC_asked_codes X I tb_206 dX0_add_7 ?_
  refine lv_iload_n X.1 X.2.1 dX0_add_10 rfl (lv_at hl 0 rfl) ?_
  refine lv_aload_n X.1 X.2.1 dX0_add_11 rfl (lv_at hl 1 rfl) ?_
  refine gC_asked_codes X I tb_206 dX0_add_12 ?_
  refine lv_iload_n X.1 X.2.1 dX0_add_15 rfl (lv_at hl 0 rfl) ?_
  refine ri_const X (v := 1) dX0_add_16 ?_
  refine ri_sub X (v := 1) (by decide) dX0_add_17 ?_
  refine aC_acodes X I (v := (S.1 14 1)) (by (try dsimp only); rw [ua_ni (by decide), ua_ni (by decide), ua_ni (by decide)]) (by omega) dX0_add_18 ?_
  refine qC_acodes X I (by omega) dX0_add_19 (fun H locs I => ?_)
  have I : In (KC G) s s.heap H locs ((ua (ua (ua (ua S.1 14 5 (S.1 14 4)) 14 4 (S.1 14 3)) 14 3 (S.1 14 2)) 14 2 (S.1 14 1)), S.2) := I
  refine ri_iinc X (k := 0) (v := 1) (lv' := [(3, .int (iI 1)), (0, .ref (G.2.2 36)), (1, .long (lI u))]) (by decide) dX0_add_20 hl rfl (by decide) rfl (fun ls hl => ?_)
  refine lv_goto (tgt := 2) X.1 X.2.1 dX0_add_23 (by decide) ?_
  refine lv_iload_n X.1 X.2.1 dX0_add_2 rfl (lv_at hl 0 rfl) ?_
  refine rz_le (tgt := 26) X (by omega) dX0_add_3 (by decide) (fun c5 => absurd c5 (by decide)) (fun _ => ?_)
  refine lv_aload_n X.1 X.2.1 dX0_add_6 rfl (lv_at hl 1 rfl) ?_
  refine gC_asked_codes X I tb_206 dX0_add_7 ?_
  refine lv_iload_n X.1 X.2.1 dX0_add_10 rfl (lv_at hl 0 rfl) ?_
  refine lv_aload_n X.1 X.2.1 dX0_add_11 rfl (lv_at hl 1 rfl) ?_
  refine gC_asked_codes X I tb_206 dX0_add_12 ?_
  refine lv_iload_n X.1 X.2.1 dX0_add_15 rfl (lv_at hl 0 rfl) ?_
  refine ri_const X (v := 1) dX0_add_16 ?_
  refine ri_sub X (v := 0) (by decide) dX0_add_17 ?_
  refine aC_acodes X I (v := (S.1 14 0)) (by (try dsimp only); rw [ua_ni (by decide), ua_ni (by decide), ua_ni (by decide), ua_ni (by decide)]) (by omega) dX0_add_18 ?_
  refine qC_acodes X I (by omega) dX0_add_19 (fun H locs I => ?_)
  have I : In (KC G) s s.heap H locs ((ua (ua (ua (ua (ua S.1 14 5 (S.1 14 4)) 14 4 (S.1 14 3)) 14 3 (S.1 14 2)) 14 2 (S.1 14 1)) 14 1 (S.1 14 0)), S.2) := I
  refine ri_iinc X (k := 0) (v := 0) (lv' := [(3, .int (iI 0)), (0, .ref (G.2.2 36)), (1, .long (lI u))]) (by decide) dX0_add_20 hl rfl (by decide) rfl (fun ls hl => ?_)
  refine lv_goto (tgt := 2) X.1 X.2.1 dX0_add_23 (by decide) ?_
  refine lv_iload_n X.1 X.2.1 dX0_add_2 rfl (lv_at hl 0 rfl) ?_
  refine rz_le (tgt := 26) X (by omega) dX0_add_3 (by decide) (fun _ => ?_) (fun c6 => absurd c6 (fun q => q (by decide)))
  refine lv_aload_n X.1 X.2.1 dX0_add_26 rfl (lv_at hl 1 rfl) ?_
  refine gC_asked_codes X I tb_206 dX0_add_27 ?_
  refine ri_const X (v := 0) dX0_add_30 ?_
  refine lv_lload_n X.1 X.2.1 dX0_add_31 rfl (lv_at hl 2 rfl) ?_
  refine qC_acodes X I (by omega) dX0_add_32 (fun H locs I => ?_)
  have I : In (KC G) s s.heap H locs ((ua (ua (ua (ua (ua (ua S.1 14 5 (S.1 14 4)) 14 4 (S.1 14 3)) 14 3 (S.1 14 2)) 14 2 (S.1 14 1)) 14 1 (S.1 14 0)) 14 0 u), S.2) := I
  refine lv_aload_n X.1 X.2.1 dX0_add_33 rfl (lv_at hl 1 rfl) ?_
  refine lv_aload_n X.1 X.2.1 dX0_add_34 rfl (lv_at hl 1 rfl) ?_
  refine gC_asked_size X I (v := (S.1 63 0)) (by (try dsimp only); rw [ua_nc (by decide), ua_nc (by decide), ua_nc (by decide), ua_nc (by decide), ua_nc (by decide), ua_nc (by decide)]) tb_208 dX0_add_35 ?_
  refine ri_const X (v := 1) dX0_add_38 ?_
  refine ri_add X (v := ((S.1 63 0) + 1)) rfl dX0_add_39 ?_
  refine ri_push X (v := 6) (by decide) dX0_add_40 ?_
  refine ri_min X hl.1 (v := (if 6 < ((S.1 63 0) + 1) then 6 else ((S.1 63 0) + 1))) rfl (by omega) (by omega) tb_633 tb_634 tb_28 tb_635 (Nat.le_of_ble_eq_true rfl) (Nat.le_of_ble_eq_true rfl) (Nat.zero_le _) (Nat.zero_le _) dX0_add_42 ?_
  refine pC_asked_size X I tb_208 dX0_add_45 (fun H locs I => ?_)
  have I : In (KC G) s s.heap H locs ((us (ua (ua (ua (ua (ua (ua S.1 14 5 (S.1 14 4)) 14 4 (S.1 14 3)) 14 3 (S.1 14 2)) 14 2 (S.1 14 1)) 14 1 (S.1 14 0)) 14 0 u) 63 (if 6 < ((S.1 63 0) + 1) then 6 else ((S.1 63 0) + 1))), S.2) := I
  exact rt_v X hr hlk I (by exact rfl) dX0_add_48

theorem ok_X3_has : yX3_has.cls ≠ "java/lang/invoke/MethodHandle" ∧ yX3_has.cls ≠ "java/lang/invoke/VarHandle" ∧ (parseMethodDescriptor yX3_has.desc).map (fun d => d.parameters.length) = some 1 := ⟨by decide +kernel, by decide +kernel, by decide +kernel⟩
abbrev po_X3_has (S : St)  (x : Int) (ln : Int) : Int → St → Prop := fun r S1 => r = bI (0 ≤ x ∧ x < ln) ∧ S1 = S
abbrev rm_X3_has : Room := ({ frames := 0, cells := 0, slots := 0, locals := 0 } : Room)
set_option maxRecDepth 100000 in
set_option maxHeartbeats 4000000 in
theorem k_X3_has (l : Launch) (G : Ge) (S : St)  (x : Int) (ln : Int) (e_ln : S.1 51 0 = ln) (hx : -2147483648 ≤ x ∧ x < 2147483648) (hln : 0 ≤ ln ∧ ln ≤ 8) : Ki (KC G) l yX3_has cX3_has 2 .boolean rm_X3_has [.ref (G.2.2 3), .int (iI x)] S (po_X3_has S x ln) := by
  refine K_start (own := "NameSeeker$Lot") (by decide +kernel) rfl (Nat.le_of_ble_eq_true rfl) ?_
  intro p e s m args below meth c X hr hlk I ls hl
  have hl : lv_has ls 2 [(0, .ref (G.2.2 3)), (1, .int (iI x))] := hl
  refine lv_iload_n X.1 X.2.1 dX3_has_0 rfl (lv_at hl 1 rfl) ?_
  refine rz_lt (tgt := 16) X (by omega) dX3_has_1 (by decide) (fun c1 => ?_) (fun c1 => ?_)
  · skip
    refine ri_const X (v := 0) dX3_has_16 ?_
    exact rt_i X hr hlk I (by rfl) (by refine ⟨(bI_f ?_).symm, rfl⟩; omega) dX3_has_17
  · skip
    refine lv_iload_n X.1 X.2.1 dX3_has_4 rfl (lv_at hl 1 rfl) ?_
    refine lv_aload_n X.1 X.2.1 dX3_has_5 rfl (lv_at hl 0 rfl) ?_
    refine gC_lot_size X I (v := ln) e_ln tb_100 dX3_has_6 ?_
    refine rj_ge (tgt := 16) X (by omega) (by omega) dX3_has_9 (by decide) (fun c2 => ?_) (fun c2 => ?_)
    · skip
      refine ri_const X (v := 0) dX3_has_16 ?_
      exact rt_i X hr hlk I (by rfl) (by refine ⟨(bI_f ?_).symm, rfl⟩; omega) dX3_has_17
    · skip
      refine ri_const X (v := 1) dX3_has_12 ?_
      refine lv_goto (tgt := 17) X.1 X.2.1 dX3_has_13 (by decide) ?_
      exact rt_i X hr hlk I (by rfl) (by refine ⟨(bI_t ?_).symm, rfl⟩; omega) dX3_has_17

theorem ok_X3_clear : yX3_clear.cls ≠ "java/lang/invoke/MethodHandle" ∧ yX3_clear.cls ≠ "java/lang/invoke/VarHandle" ∧ (parseMethodDescriptor yX3_clear.desc).map (fun d => d.parameters.length) = some 0 := ⟨by decide +kernel, by decide +kernel, by decide +kernel⟩
abbrev po_X3_clear (S : St)   : St → Prop := fun S1 => S1 = (us S.1 51 0, S.2)
abbrev rm_X3_clear : Room := ({ frames := 0, cells := 0, slots := 0, locals := 0 } : Room)
set_option maxRecDepth 100000 in
set_option maxHeartbeats 4000000 in
theorem k_X3_clear (l : Launch) (G : Ge) (S : St)     : Kv (KC G) l yX3_clear cX3_clear 1 rm_X3_clear [.ref (G.2.2 3)] S (po_X3_clear S) := by
  refine K_start (own := "NameSeeker$Lot") (by decide +kernel) rfl (Nat.le_of_ble_eq_true rfl) ?_
  intro p e s m args below meth c X hr hlk I ls hl
  have hl : lv_has ls 1 [(0, .ref (G.2.2 3))] := hl
  refine lv_aload_n X.1 X.2.1 dX3_clear_0 rfl (lv_at hl 0 rfl) ?_
  refine ri_const X (v := 0) dX3_clear_1 ?_
  refine pC_lot_size X I tb_100 dX3_clear_2 (fun H locs I => ?_)
  have I : In (KC G) s s.heap H locs ((us S.1 51 0), S.2) := I
  exact rt_v X hr hlk I (by exact rfl) dX3_clear_5

theorem ok_X3_addName : yX3_addName.cls ≠ "java/lang/invoke/MethodHandle" ∧ yX3_addName.cls ≠ "java/lang/invoke/VarHandle" ∧ (parseMethodDescriptor yX3_addName.desc).map (fun d => d.parameters.length) = some 1 := ⟨by decide +kernel, by decide +kernel, by decide +kernel⟩
abbrev po_X3_addName (G : Ge) (S : St)  (u : Int) (ln : Int) (ld : Int) : Nat → St → Prop := fun r S1 => r = G.2.2 (41 + 2 * S.2 ln.toNat) ∧ S1 = ((us (us (ua (ua (ua (ua (ua (ua S.1 2 (((S.2 ln.toNat) : Nat) : Int) 0) 3 (((S.2 ln.toNat) : Nat) : Int) u) 4 (((S.2 ln.toNat) : Nat) : Int) ld) 5 (((S.2 ln.toNat) : Nat) : Int) 0) 6 (((S.2 ln.toNat) : Nat) : Int) 0) 7 (((S.2 ln.toNat) : Nat) : Int) 0) 51 (ln + 1)) 52 (ld + 1)), S.2)
abbrev rm_X3_addName : Room := ({ frames := 1, cells := 0, slots := 0, locals := 22 } : Room)
set_option maxRecDepth 100000 in
set_option maxHeartbeats 4000000 in
theorem k_X3_addName (l : Launch) (G : Ge) (S : St)  (u : Int) (ln : Int) (ld : Int) (e_ln : S.1 51 0 = ln) (e_ld : S.1 52 0 = ld) (hln : 0 ≤ ln ∧ ln < 8) (hpi : S.2 ln.toNat < 8) : Kr (KC G) l yX3_addName cX3_addName 3 (.object "NameSeeker$Name") rm_X3_addName [.ref (G.2.2 3), .int (iI u)] S (po_X3_addName G S u ln ld) := by
  refine K_start (own := "NameSeeker$Lot") (by decide +kernel) rfl (Nat.le_of_ble_eq_true rfl) ?_
  intro p e s m args below meth c X hr hlk I ls hl
  have hl : lv_has ls 3 [(0, .ref (G.2.2 3)), (1, .int (iI u))] := hl
  refine lv_aload_n X.1 X.2.1 dX3_addName_0 rfl (lv_at hl 0 rfl) ?_
  refine gC_lot_names X I tb_97 dX3_addName_1 ?_
  refine lv_aload_n X.1 X.2.1 dX3_addName_4 rfl (lv_at hl 0 rfl) ?_
  refine gC_lot_size X I (v := ln) e_ln tb_100 dX3_addName_5 ?_
  refine aC_names X I (by omega) dX3_addName_8 ?_
  refine lv_astore_n (lv' := [(2, .ref (G.2.2 (41 + 2 * S.2 ln.toNat))), (0, .ref (G.2.2 3)), (1, .int (iI u))]) X.1 X.2.1 dX3_addName_9 rfl hl (by decide) rfl (fun ls hl => ?_)
  refine lv_aload_n X.1 X.2.1 dX3_addName_10 rfl (lv_at hl 0 rfl) ?_
  refine lv_iload_n X.1 X.2.1 dX3_addName_11 rfl (lv_at hl 2 rfl) ?_
  refine lv_aload_n X.1 X.2.1 dX3_addName_12 rfl (lv_at hl 1 rfl) ?_
  refine gC_lot_laid X I (v := ld) e_ld tb_103 dX3_addName_13 ?_
  refine cl_v I (runV (As := [.int (iI u), .int (iI ld)]) (rest := []) X (k_X4_reset l G S ((S.2 ln.toNat)) u ld  hpi) (gdC tb_321 (gdC tb_322 (gdC tb_323 (gdC tb_17 (gdC tb_324 gdB))))) ⟨ok_X4_reset, ⟨Nat.le_of_ble_eq_true rfl, Nat.le_of_ble_eq_true rfl⟩, rfl, rfl⟩ (PreV.of (C := RX4) (T := TX4) (N := 7) I (atC_name (j := (S.2 ln.toNat)) hpi) rfl) rfl hl.1 rfl (Nat.le_of_ble_eq_true rfl) dX3_addName_16 ⟨Nat.zero_le _, Nat.zero_le _⟩) (fun S2 H locs q3 I => ?_)
  rw [q3] at I
  have I : In (KC G) s s.heap H locs ((ua (ua (ua (ua (ua (ua S.1 2 (((S.2 ln.toNat) : Nat) : Int) 0) 3 (((S.2 ln.toNat) : Nat) : Int) u) 4 (((S.2 ln.toNat) : Nat) : Int) ld) 5 (((S.2 ln.toNat) : Nat) : Int) 0) 6 (((S.2 ln.toNat) : Nat) : Int) 0) 7 (((S.2 ln.toNat) : Nat) : Int) 0), S.2) := I
  refine lv_aload_n X.1 X.2.1 dX3_addName_19 rfl (lv_at hl 1 rfl) ?_
  refine lv_dup X.1 X.2.1 dX3_addName_20 rfl ?_
  refine gC_lot_size X I (v := ln) (by (try dsimp only); rw [ua_nc (by decide), ua_nc (by decide), ua_nc (by decide), ua_nc (by decide), ua_nc (by decide), ua_nc (by decide)]; exact e_ln) tb_100 dX3_addName_21 ?_
  refine ri_const X (v := 1) dX3_addName_24 ?_
  refine ri_add X (v := (ln + 1)) rfl dX3_addName_25 ?_
  refine pC_lot_size X I tb_100 dX3_addName_26 (fun H locs I => ?_)
  have I : In (KC G) s s.heap H locs ((us (ua (ua (ua (ua (ua (ua S.1 2 (((S.2 ln.toNat) : Nat) : Int) 0) 3 (((S.2 ln.toNat) : Nat) : Int) u) 4 (((S.2 ln.toNat) : Nat) : Int) ld) 5 (((S.2 ln.toNat) : Nat) : Int) 0) 6 (((S.2 ln.toNat) : Nat) : Int) 0) 7 (((S.2 ln.toNat) : Nat) : Int) 0) 51 (ln + 1)), S.2) := I
  refine lv_aload_n X.1 X.2.1 dX3_addName_29 rfl (lv_at hl 1 rfl) ?_
  refine lv_dup X.1 X.2.1 dX3_addName_30 rfl ?_
  refine gC_lot_laid X I (v := ld) (by (try dsimp only); rw [us_nc (by decide), ua_nc (by decide), ua_nc (by decide), ua_nc (by decide), ua_nc (by decide), ua_nc (by decide), ua_nc (by decide)]; exact e_ld) tb_103 dX3_addName_31 ?_
  refine ri_const X (v := 1) dX3_addName_34 ?_
  refine ri_add X (v := (ld + 1)) rfl dX3_addName_35 ?_
  refine pC_lot_laid X I tb_103 dX3_addName_36 (fun H locs I => ?_)
  have I : In (KC G) s s.heap H locs ((us (us (ua (ua (ua (ua (ua (ua S.1 2 (((S.2 ln.toNat) : Nat) : Int) 0) 3 (((S.2 ln.toNat) : Nat) : Int) u) 4 (((S.2 ln.toNat) : Nat) : Int) ld) 5 (((S.2 ln.toNat) : Nat) : Int) 0) 6 (((S.2 ln.toNat) : Nat) : Int) 0) 7 (((S.2 ln.toNat) : Nat) : Int) 0) 51 (ln + 1)) 52 (ld + 1)), S.2) := I
  refine lv_aload_n X.1 X.2.1 dX3_addName_39 rfl (lv_at hl 0 rfl) ?_
  exact rt_r X hr hlk I (by exact ⟨rfl, rfl⟩) dX3_addName_40
