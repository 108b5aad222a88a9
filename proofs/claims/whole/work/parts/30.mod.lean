abbrev alS (s : Int → Int) (kd : Int) (f : Int → Int) : Int → Int → Bool := fun k q => decide (alk (s q) kd (f k))
/-- all ways: how many; the first of the greatest worth -/
def resS (s f : Int → Int) (kd b r g n m : Int) : Int × Int × List Int := fw (rwt (opl (bgv s n.toNat) kd b) (ost kd r g)) (wl (alS s kd f) n.toNat m.toNat 0 0) 0 (-4) []
theorem resS_few {s f : Int → Int} {kd b r g n m : Int} (h : n < m) (h0 : 0 ≤ n := by omega) : resS s f kd b r g n m = (0, -4, []) := by
  unfold resS
  rw [wl_few _ _ _ _ _ (by omega)]; rfl
theorem okrS_y {sa a f : Int → Int} {x kd m : Int} (hm : 0 ≤ m) (h : ∀ j : Int, 0 ≤ j → j < m → alk (sa (12 * x + a j)) kd (f j)) : okr (alS (fun z_ => sa (12 * x + z_)) kd f) (lst a m.toNat 0) 0 = true := by
  rw [okr_lst]
  exact fun j a b => decide_eq_true (h j a (by omega))
theorem okrS_n {sa a f : Int → Int} {x kd m k : Int} (hk : 0 ≤ k ∧ k < m) (h : ¬ alk (sa (12 * x + a k)) kd (f k)) : ¬ okr (alS (fun z_ => sa (12 * x + z_)) kd f) (lst a m.toNat 0) 0 = true := by
  rw [okr_lst]
  exact fun z => h (of_decide_eq_true (z k hk.1 (by omega)))
theorem okr_T (a : List Int) : ∀ k : Int, okr (fun _ _ => true) a k = true := by
  induction a with
  | nil => intro k; rfl
  | cons q r ih => intro k; rw [okr, ih]; rfl
theorem frmT_len {n : Int} {a : List Int} {k : Int} : (frm (fun _ _ => true) n a k).length = (aft (fun _ _ => true) n a k).length + 1 := by
  rw [frm_aft, okr_T, if_pos rfl, List.length_append, List.length_singleton]; omega
theorem fw_skip {A : Int → Int → Bool} {W : List Int → Int} {n : Int} {a b : List Int} {k c v : Int} (h : ¬ okr A a k = true) : fw W (frm A n a k) c v b = fw W (aft A n a k) c v b := by rw [frm_aft, if_neg h]; rfl
theorem fw_take {A : Int → Int → Bool} {W : List Int → Int} {n : Int} {a b : List Int} {k c v : Int} (h : okr A a k = true) (h2 : c = 0 ∨ v < W a) : fw W (frm A n a k) c v b = fw W (aft A n a k) (c + 1) (W a) a := by rw [frm_aft, if_pos h]; exact fw_yes h2
theorem fw_pass {A : Int → Int → Bool} {W : List Int → Int} {n : Int} {a b : List Int} {k c v : Int} (h : okr A a k = true) (h2 : ¬ (c = 0 ∨ v < W a)) : fw W (frm A n a k) c v b = fw W (aft A n a k) (c + 1) v b := by rw [frm_aft, if_pos h]; exact fw_no h2

theorem ok_X10_isAlike : yX10_isAlike.cls ≠ "java/lang/invoke/MethodHandle" ∧ yX10_isAlike.cls ≠ "java/lang/invoke/VarHandle" ∧ (parseMethodDescriptor yX10_isAlike.desc).map (fun d => d.parameters.length) = some 3 := ⟨by decide +kernel, by decide +kernel, by decide +kernel⟩
abbrev po_X10_isAlike (S : St)  (x : Int) (q : Int) (u : Int) (sa : Int → Int) (kd : Int) : Int → St → Prop := fun r S1 => r = bI (alk (sa (12 * x + q)) kd u) ∧ S1 = S
abbrev rm_X10_isAlike : Room := ({ frames := 2, cells := 0, slots := 0, locals := 40 } : Room)
set_option maxRecDepth 100000 in
set_option maxHeartbeats 4000000 in
theorem k_X10_isAlike (l : Launch) (G : Ge) (S : St)  (x : Int) (q : Int) (u : Int) (sa : Int → Int) (kd : Int) (e_sa : ∀ i : Int, S.1 2 i = sa i) (e_kd : S.1 4 x = kd) (hx : 0 ≤ x ∧ x < 8) (hq : 0 ≤ q ∧ q < 12) (hkd : 0 ≤ kd ∧ kd ≤ 3) (hs : ((97 ≤ sa (12 * x + q) ∧ sa (12 * x + q) ≤ 122) ∨ (65 ≤ sa (12 * x + q) ∧ sa (12 * x + q) ≤ 90) ∨ sa (12 * x + q) = 95)) (hu : ((97 ≤ u ∧ u ≤ 122) ∨ (65 ≤ u ∧ u ≤ 90))) : Ki (KM G) l yX10_isAlike cX10_isAlike 5 .boolean rm_X10_isAlike [.ref (G.2.2 0), .int (iI x), .int (iI q), .int (iI u)] S (po_X10_isAlike S x q u sa kd) := by
  refine K_start (own := "NameSeekerModel") (by decide +kernel) rfl (Nat.le_of_ble_eq_true rfl) ?_
  intro p e s m args below meth c X hr hlk I ls hl
  have hl : lv_has ls 5 [(0, .ref (G.2.2 0)), (1, .int (iI x)), (2, .int (iI q)), (3, .int (iI u))] := hl
  refine lv_aload_n X.1 X.2.1 dX10_isAlike_0 rfl (lv_at hl 0 rfl) ?_
  refine gM_model_signs X I tb_697 dX10_isAlike_1 ?_
  refine ri_push X (v := 12) (by decide) dX10_isAlike_4 ?_
  refine lv_iload_n X.1 X.2.1 dX10_isAlike_6 rfl (lv_at hl 1 rfl) ?_
  refine ri_mul X (v := (12 * x)) rfl dX10_isAlike_7 ?_
  refine lv_iload_n X.1 X.2.1 dX10_isAlike_8 rfl (lv_at hl 2 rfl) ?_
  refine ri_add X (v := ((12 * x) + q)) rfl dX10_isAlike_9 ?_
  refine aM_signs X I (v := (sa ((12 * x) + q))) (e_sa ((12 * x) + q)) (by omega) dX10_isAlike_10 ?_
  refine lv_istore (lv' := [(4, .int (iI (sa ((12 * x) + q)))), (0, .ref (G.2.2 0)), (1, .int (iI x)), (2, .int (iI q)), (3, .int (iI u))]) X.1 X.2.1 dX10_isAlike_11 hl (by decide) rfl (fun ls hl => ?_)
  refine lv_aload_n X.1 X.2.1 dX10_isAlike_13 rfl (lv_at hl 1 rfl) ?_
  refine gM_model_kinds X I tb_699 dX10_isAlike_14 ?_
  refine lv_iload_n X.1 X.2.1 dX10_isAlike_17 rfl (lv_at hl 2 rfl) ?_
  refine aM_kinds X I (v := kd) e_kd (by omega) dX10_isAlike_18 ?_
  refine ri_const X (v := 1) dX10_isAlike_19 ?_
  refine rj_ne (tgt := 37) X (by omega) (by omega) dX10_isAlike_20 (by decide) (fun c1 => ?_) (fun c1 => ?_)
  · skip
    refine lv_iload X.1 X.2.1 dX10_isAlike_37 (lv_at hl 0 rfl) ?_
    refine cl_i I (runS (As := [.int (iI (sa ((12 * x) + q)))]) (rest := []) X (k_X10_low l G S  (sa ((12 * x) + q))  (by omega)) (gdC tb_950 gdB) tb_948 tb_949 tb_48 ⟨ok_X10_low, ⟨Nat.le_of_ble_eq_true rfl, Nat.le_of_ble_eq_true rfl⟩, rfl, rfl⟩ (PreS.of I) rfl hl.1 rfl (Nat.le_of_ble_eq_true rfl) dX10_isAlike_39 ⟨Nat.zero_le _, Nat.zero_le _⟩) (fun r2 S3 H locs q4 I => ?_)
    obtain ⟨e1_, e2_⟩ := q4
    rw [e2_] at I
    rw [e1_]
    clear e1_ e2_
    have t5 := lowv_r (x := (sa ((12 * x) + q)))
    refine lv_iload_n X.1 X.2.1 dX10_isAlike_42 rfl (lv_at hl 4 rfl) ?_
    refine cl_i I (runS (As := [.int (iI u)]) (rest := [.int (iI (lowv (sa ((12 * x) + q))))]) X (k_X10_low l G S  u  (by omega)) (gdC tb_950 gdB) tb_948 tb_949 tb_48 ⟨ok_X10_low, ⟨Nat.le_of_ble_eq_true rfl, Nat.le_of_ble_eq_true rfl⟩, rfl, rfl⟩ (PreS.of I) rfl hl.1 rfl (Nat.le_of_ble_eq_true rfl) dX10_isAlike_43 ⟨Nat.zero_le _, Nat.zero_le _⟩) (fun r6 S7 H locs q8 I => ?_)
    obtain ⟨e1_, e2_⟩ := q8
    rw [e2_] at I
    rw [e1_]
    clear e1_ e2_
    have t9 := lowv_r (x := u)
    refine rj_ne (tgt := 53) X (by omega) (by omega) dX10_isAlike_46 (by decide) (fun c10 => ?_) (fun c10 => ?_)
    · skip
      refine ri_const X (v := 0) dX10_isAlike_53 ?_
      exact rt_i X hr hlk I (by rfl) (by refine ⟨(bI_f ?_).symm, rfl⟩; first | exact (alk_one (by omega)).mpr (by omega) | exact (alk_low hs hu (by omega)).mpr (by omega) | exact fun z => absurd ((alk_one (by omega)).mp z) (by omega) | exact fun z => absurd ((alk_low hs hu (by omega)).mp z) (by omega)) dX10_isAlike_54
    · skip
      refine ri_const X (v := 1) dX10_isAlike_49 ?_
      refine lv_goto (tgt := 54) X.1 X.2.1 dX10_isAlike_50 (by decide) ?_
      exact rt_i X hr hlk I (by rfl) (by refine ⟨(bI_t ?_).symm, rfl⟩; first | exact (alk_one (by omega)).mpr (by omega) | exact (alk_low hs hu (by omega)).mpr (by omega) | exact fun z => absurd ((alk_one (by omega)).mp z) (by omega) | exact fun z => absurd ((alk_low hs hu (by omega)).mp z) (by omega)) dX10_isAlike_54
  · skip
    refine lv_iload X.1 X.2.1 dX10_isAlike_23 (lv_at hl 0 rfl) ?_
    refine lv_iload_n X.1 X.2.1 dX10_isAlike_25 rfl (lv_at hl 4 rfl) ?_
    refine rj_ne (tgt := 33) X (by omega) (by omega) dX10_isAlike_26 (by decide) (fun c11 => ?_) (fun c11 => ?_)
    · skip
      refine ri_const X (v := 0) dX10_isAlike_33 ?_
      refine lv_goto (tgt := 54) X.1 X.2.1 dX10_isAlike_34 (by decide) ?_
      exact rt_i X hr hlk I (by rfl) (by refine ⟨(bI_f ?_).symm, rfl⟩; first | exact (alk_one (by omega)).mpr (by omega) | exact (alk_low hs hu (by omega)).mpr (by omega) | exact fun z => absurd ((alk_one (by omega)).mp z) (by omega) | exact fun z => absurd ((alk_low hs hu (by omega)).mp z) (by omega)) dX10_isAlike_54
    · skip
      refine ri_const X (v := 1) dX10_isAlike_29 ?_
      refine lv_goto (tgt := 54) X.1 X.2.1 dX10_isAlike_30 (by decide) ?_
      exact rt_i X hr hlk I (by rfl) (by refine ⟨(bI_t ?_).symm, rfl⟩; first | exact (alk_one (by omega)).mpr (by omega) | exact (alk_low hs hu (by omega)).mpr (by omega) | exact fun z => absurd ((alk_one (by omega)).mp z) (by omega) | exact fun z => absurd ((alk_low hs hu (by omega)).mp z) (by omega)) dX10_isAlike_54

theorem ok_X10_isWay : yX10_isWay.cls ≠ "java/lang/invoke/MethodHandle" ∧ yX10_isWay.cls ≠ "java/lang/invoke/VarHandle" ∧ (parseMethodDescriptor yX10_isWay.desc).map (fun d => d.parameters.length) = some 1 := ⟨by decide +kernel, by decide +kernel, by decide +kernel⟩
abbrev po_X10_isWay (S : St)  (x : Int) (sa : Int → Int) (kd : Int) (n_ : Int) (m_ : Int) (a : Int → Int) (f : Int → Int) : Int → St → Prop := fun r S1 => r = bI (okr (alS (fun z_ => sa (12 * x + z_)) kd f) (lst a m_.toNat 0) 0 = true) ∧ S1 = S
abbrev rm_X10_isWay : Room := ({ frames := 3, cells := 0, slots := 0, locals := 64 } : Room)
set_option maxRecDepth 100000 in
set_option maxHeartbeats 4000000 in
theorem k_X10_isWay (l : Launch) (G : Ge) (S : St)  (x : Int) (sa : Int → Int) (kd : Int) (n_ : Int) (m_ : Int) (a : Int → Int) (f : Int → Int) (e_sa : ∀ i : Int, S.1 2 i = sa i) (e_kd : S.1 4 x = kd) (e_n_ : S.1 3 x = n_) (e_m_ : S.1 62 0 = m_) (e_a : ∀ i : Int, S.1 21 i = a i) (e_f : ∀ i : Int, S.1 20 i = f i) (hx : 0 ≤ x ∧ x < 8) (hkd : 0 ≤ kd ∧ kd ≤ 3) (hn_ : 1 ≤ n_ ∧ n_ ≤ 12) (hs : ∀ k : Int, 0 ≤ k → k < n_ → ((97 ≤ sa (12 * x + k) ∧ sa (12 * x + k) ≤ 122) ∨ (65 ≤ sa (12 * x + k) ∧ sa (12 * x + k) ≤ 90) ∨ sa (12 * x + k) = 95)) (hm_ : 0 ≤ m_ ∧ m_ ≤ 6) (hf : ∀ j : Int, 0 ≤ j → j < m_ → ((97 ≤ f j ∧ f j ≤ 122) ∨ (65 ≤ f j ∧ f j ≤ 90))) (ha : ∀ j : Int, 0 ≤ j → j < m_ → 0 ≤ a j ∧ a j < n_) : Ki (KM G) l yX10_isWay cX10_isWay 3 .boolean rm_X10_isWay [.ref (G.2.2 0), .int (iI x)] S (po_X10_isWay S x sa kd n_ m_ a f) := by
  refine K_start (own := "NameSeekerModel") (by decide +kernel) rfl (Nat.le_of_ble_eq_true rfl) ?_
  intro p e s m args below meth c X hr hlk I ls hl
  have hl : lv_has ls 3 [(0, .ref (G.2.2 0)), (1, .int (iI x))] := hl
  refine ri_const X (v := 0) dX10_isWay_0 ?_
  refine lv_istore_n (lv' := [(2, .int (iI 0)), (0, .ref (G.2.2 0)), (1, .int (iI x))]) X.1 X.2.1 dX10_isWay_1 rfl hl (by decide) rfl (fun ls hl => ?_)
  have lp_2 : ∀ (fu_ : Nat) (k : Int), (6 - k).toNat < fu_ → ∀ (hk : 0 ≤ k ∧ k ≤ m_) (hin : ∀ j : Int, 0 ≤ j → j < k → alk (sa (12 * x + a j)) kd (f j)) (H : Heap) (locs : List Loc), In (KM G) s s.heap H locs S → ∀ ls : Array Slot, lv_has ls 3 [(0, .ref (G.2.2 0)), (1, .int (iI x)), (2, .int (iI k))] → W p l e rm_X10_isWay s m args below meth c H locs 0 0 (MQ below (QI (KM G) (po_X10_isWay S x sa kd n_ m_ a f)) args s 0 0 (KM G).2.2.2) (F0 m 2 ls []) := by
    intro fu_
    induction fu_ with
    | zero => intro k hm; exact absurd hm (by omega)
    | succ fu_ ih_2 =>
      intro k hm_2 hk hin H locs I ls hl
      refine lv_iload_n X.1 X.2.1 dX10_isWay_2 rfl (lv_at hl 2 rfl) ?_
      refine lv_aload_n X.1 X.2.1 dX10_isWay_3 rfl (lv_at hl 0 rfl) ?_
      refine gM_model_triedSize X I (v := m_) e_m_ tb_725 dX10_isWay_4 ?_
      refine rj_ge (tgt := 38) X (by omega) (by omega) dX10_isWay_7 (by decide) (fun c1 => ?_) (fun c1 => ?_)
      · skip
        refine ri_const X (v := 1) dX10_isWay_38 ?_
        exact rt_i X hr hlk I (by rfl) (by exact ⟨(bI_t (okrS_y (by omega) (fun j h1 h2 => hin j h1 (by omega)))).symm, rfl⟩) dX10_isWay_39
      · skip
        have hak := ha k (by omega) (by omega)
        refine lv_aload_n X.1 X.2.1 dX10_isWay_10 rfl (lv_at hl 0 rfl) ?_
        refine lv_iload_n X.1 X.2.1 dX10_isWay_11 rfl (lv_at hl 1 rfl) ?_
        refine lv_aload_n X.1 X.2.1 dX10_isWay_12 rfl (lv_at hl 0 rfl) ?_
        refine gM_model_at X I tb_727 dX10_isWay_13 ?_
        refine lv_iload_n X.1 X.2.1 dX10_isWay_16 rfl (lv_at hl 2 rfl) ?_
        refine aM_at X I (v := (a k)) (e_a k) (by omega) dX10_isWay_17 ?_
        refine lv_aload_n X.1 X.2.1 dX10_isWay_18 rfl (lv_at hl 0 rfl) ?_
        refine gM_model_tried X I tb_726 dX10_isWay_19 ?_
        refine lv_iload_n X.1 X.2.1 dX10_isWay_22 rfl (lv_at hl 2 rfl) ?_
        refine aM_tried X I (v := (f k)) (e_f k) (by omega) dX10_isWay_23 ?_
        refine cl_i I (runV (As := [.int (iI x), .int (iI (a k)), .int (iI (f k))]) (rest := []) X (k_X10_isAlike l G S  x (a k) (f k) (sa) kd (fun i_ => (e_sa i_)) e_kd (by omega) (by omega) (by omega) (hs _ (by omega) (by omega)) (hf _ (by omega) (by omega))) (gdC tb_944 (gdC tb_946 (gdC tb_25 (gdC tb_48 (gdC tb_947 gdB))))) ⟨ok_X10_isAlike, ⟨Nat.le_of_ble_eq_true rfl, Nat.le_of_ble_eq_true rfl⟩, rfl, rfl⟩ (PreV.of (C := RX10) (T := TX10) (N := 41) I (atM_model) rfl) rfl hl.1 rfl (Nat.le_of_ble_eq_true rfl) dX10_isWay_24 ⟨Nat.zero_le _, Nat.zero_le _⟩) (fun r2 S3 H locs q4 I => ?_)
        obtain ⟨e1_, e2_⟩ := q4
        rw [e2_] at I
        rw [e1_]
        clear e1_ e2_
        rcases Decidable.em (alk ((sa) (12 * x + (a k))) kd (f k)) with b5 | b5
        · rw [bI_t b5]
          refine rz_ne (tgt := 32) X (by omega) dX10_isWay_27 (by decide) (fun _ => ?_) (fun c6 => absurd c6 (by decide))
          refine ri_iinc X (k := 2) (v := (k + 1)) (lv' := [(2, .int (iI (k + 1))), (0, .ref (G.2.2 0)), (1, .int (iI x))]) rfl dX10_isWay_32 hl rfl (by decide) rfl (fun ls hl => ?_)
          refine lv_goto (tgt := 2) X.1 X.2.1 dX10_isWay_35 (by decide) ?_
          exact ih_2 (k + 1) (by omega) (by omega) (fun j h1 h2 => if q : j = k then (by rw [q]; assumption) else hin j h1 (by omega)) _ _ I ls (lv_sub hl [1, 2, 0] rfl)
        · rw [bI_f b5]
          refine rz_ne (tgt := 32) X (by omega) dX10_isWay_27 (by decide) (fun c7 => absurd c7 (by decide)) (fun _ => ?_)
          refine ri_const X (v := 0) dX10_isWay_30 ?_
          exact rt_i X hr hlk I (by rfl) (by exact ⟨(bI_f (okrS_n (k := k) (by omega) (by assumption))).symm, rfl⟩) dX10_isWay_31
  exact lp_2 (7) 0 (by omega) (by omega) (fun j h1 h2 => absurd h2 (by omega)) _ _ I ls (lv_sub hl [1, 2, 0] rfl)

theorem ok_X10_worthOfWay : yX10_worthOfWay.cls ≠ "java/lang/invoke/MethodHandle" ∧ yX10_worthOfWay.cls ≠ "java/lang/invoke/VarHandle" ∧ (parseMethodDescriptor yX10_worthOfWay.desc).map (fun d => d.parameters.length) = some 1 := ⟨by decide +kernel, by decide +kernel, by decide +kernel⟩
abbrev po_X10_worthOfWay (S : St)  (x : Int) (sa : Int → Int) (kd : Int) (n_ : Int) (m_ : Int) (a : Int → Int) (b_ : Int) (r_ : Int) (g_ : Int) : Int → St → Prop := fun r S1 => r = wmv (opl (bgv (fun z_ => sa (12 * x + z_)) n_.toNat) kd b_) (ost kd r_ g_) a m_.toNat ∧ S1 = S
abbrev rm_X10_worthOfWay : Room := ({ frames := 2, cells := 0, slots := 0, locals := 44 } : Room)
set_option maxRecDepth 100000 in
set_option maxHeartbeats 4000000 in
theorem k_X10_worthOfWay (l : Launch) (G : Ge) (S : St)  (x : Int) (sa : Int → Int) (kd : Int) (n_ : Int) (m_ : Int) (a : Int → Int) (b_ : Int) (r_ : Int) (g_ : Int) (e_sa : ∀ i : Int, S.1 2 i = sa i) (e_kd : S.1 4 x = kd) (e_n_ : S.1 3 x = n_) (e_m_ : S.1 62 0 = m_) (e_a : ∀ i : Int, S.1 21 i = a i) (e_b_ : S.1 7 0 = b_) (e_r_ : S.1 7 1 = r_) (e_g_ : S.1 7 2 = g_) (hx : 0 ≤ x ∧ x < 8) (hkd : 0 ≤ kd ∧ kd ≤ 3) (hn_ : 1 ≤ n_ ∧ n_ ≤ 12) (hs : ∀ k : Int, 0 ≤ k → k < n_ → ((97 ≤ sa (12 * x + k) ∧ sa (12 * x + k) ≤ 122) ∨ (65 ≤ sa (12 * x + k) ∧ sa (12 * x + k) ≤ 90) ∨ sa (12 * x + k) = 95)) (hm_ : 0 ≤ m_ ∧ m_ ≤ 6) (ha : ∀ j : Int, 0 ≤ j → j < m_ → 0 ≤ a j ∧ a j < n_) (hb : 0 ≤ b_ ∧ b_ ≤ 9) (hr_ : 0 ≤ r_ ∧ r_ ≤ 9) (hg : 0 ≤ g_ ∧ g_ ≤ 9) : Ki (KM G) l yX10_worthOfWay cX10_worthOfWay 5 .int rm_X10_worthOfWay [.ref (G.2.2 0), .int (iI x)] S (po_X10_worthOfWay S x sa kd n_ m_ a b_ r_ g_) := by
  refine K_start (own := "NameSeekerModel") (by decide +kernel) rfl (Nat.le_of_ble_eq_true rfl) ?_
  intro p e s m args below meth c X hr hlk I ls hl
  have hl : lv_has ls 5 [(0, .ref (G.2.2 0)), (1, .int (iI x))] := hl
  refine ri_const X (v := 0) dX10_worthOfWay_0 ?_
  refine lv_istore_n (lv' := [(2, .int (iI 0)), (0, .ref (G.2.2 0)), (1, .int (iI x))]) X.1 X.2.1 dX10_worthOfWay_1 rfl hl (by decide) rfl (fun ls hl => ?_)
  refine ri_const X (v := 0) dX10_worthOfWay_2 ?_
  refine lv_istore_n (lv' := [(3, .int (iI 0)), (2, .int (iI 0)), (0, .ref (G.2.2 0)), (1, .int (iI x))]) X.1 X.2.1 dX10_worthOfWay_3 rfl hl (by decide) rfl (fun ls hl => ?_)
  have lp_4 : ∀ (fu_ : Nat) (k : Int), (6 - k).toNat < fu_ → ∀ (hk : 0 ≤ k ∧ k ≤ m_) (H : Heap) (locs : List Loc), In (KM G) s s.heap H locs S → ∀ ls : Array Slot, lv_has ls 5 [(0, .ref (G.2.2 0)), (1, .int (iI x)), (2, .int (iI (wmv (opl (bgv (fun z_ => sa (12 * x + z_)) n_.toNat) kd b_) (ost kd r_ g_) a k.toNat))), (3, .int (iI k))] → W p l e rm_X10_worthOfWay s m args below meth c H locs 0 0 (MQ below (QI (KM G) (po_X10_worthOfWay S x sa kd n_ m_ a b_ r_ g_)) args s 0 0 (KM G).2.2.2) (F0 m 4 ls []) := by
    intro fu_
    induction fu_ with
    | zero => intro k hm; exact absurd hm (by omega)
    | succ fu_ ih_4 =>
      intro k hm_4 hk H locs I ls hl
      refine lv_iload_n X.1 X.2.1 dX10_worthOfWay_4 rfl (lv_at hl 3 rfl) ?_
      refine lv_aload_n X.1 X.2.1 dX10_worthOfWay_5 rfl (lv_at hl 0 rfl) ?_
      refine gM_model_triedSize X I (v := m_) e_m_ tb_725 dX10_worthOfWay_6 ?_
      refine rj_ge (tgt := 136) X (by omega) (by omega) dX10_worthOfWay_9 (by decide) (fun c1 => ?_) (fun c1 => ?_)
      · skip
        have e_k : k = m_ := by omega
        refine lv_iload_n X.1 X.2.1 dX10_worthOfWay_136 rfl (lv_at hl 2 rfl) ?_
        exact rt_i X hr hlk I rfl (by first | (refine ⟨?_, rfl⟩; (rw [e_k]); done) | (exfalso; omega)) dX10_worthOfWay_137
      · skip
        have hak := ha k (by omega) (by omega)
        refine ri_iinc X (k := 2) (v := ((wmv (opl (bgv (fun z_ => sa (12 * x + z_)) n_.toNat) kd b_) (ost kd r_ g_) a k.toNat) + 50)) (lv' := [(2, .int (iI ((wmv (opl (bgv (fun z_ => sa (12 * x + z_)) n_.toNat) kd b_) (ost kd r_ g_) a k.toNat) + 50))), (0, .ref (G.2.2 0)), (1, .int (iI x)), (3, .int (iI k))]) rfl dX10_worthOfWay_12 hl rfl (by decide) rfl (fun ls hl => ?_)
        refine lv_aload_n X.1 X.2.1 dX10_worthOfWay_15 rfl (lv_at hl 1 rfl) ?_
        refine lv_iload_n X.1 X.2.1 dX10_worthOfWay_16 rfl (lv_at hl 2 rfl) ?_
        refine lv_aload_n X.1 X.2.1 dX10_worthOfWay_17 rfl (lv_at hl 1 rfl) ?_
        refine gM_model_at X I tb_727 dX10_worthOfWay_18 ?_
        refine lv_iload_n X.1 X.2.1 dX10_worthOfWay_21 rfl (lv_at hl 3 rfl) ?_
        refine aM_at X I (v := (a k)) (e_a k) (by omega) dX10_worthOfWay_22 ?_
        refine cl_i I (runV (As := [.int (iI x), .int (iI (a k))]) (rest := []) X (k_X10_isBeginning l G S  x (a k) (sa) (fun i_ => (e_sa i_)) (by omega) (by omega) (fun y h1 h2 => hs y h1 (by omega))) (gdC tb_871 (gdC tb_873 (gdC tb_19 (gdC tb_48 (gdC tb_874 gdB))))) ⟨ok_X10_isBeginning, ⟨Nat.le_of_ble_eq_true rfl, Nat.le_of_ble_eq_true rfl⟩, rfl, rfl⟩ (PreV.of (C := RX10) (T := TX10) (N := 41) I (atM_model) rfl) rfl hl.1 rfl (Nat.le_of_ble_eq_true rfl) dX10_worthOfWay_23 ⟨Nat.zero_le _, Nat.zero_le _⟩) (fun r2 S3 H locs q4 I => ?_)
        obtain ⟨e1_, e2_⟩ := q4
        rw [e2_] at I
        rw [e1_]
        clear e1_ e2_
        rcases Decidable.em (bgP (fun z_ => (sa) (12 * x + z_)) (a k)) with b5 | b5
        · rw [bI_t b5]
          refine rz_eq (tgt := 68) X (by omega) dX10_worthOfWay_26 (by decide) (fun c6 => absurd c6 (by decide)) (fun _ => ?_)
          refine lv_iload_n X.1 X.2.1 dX10_worthOfWay_29 rfl (lv_at hl 0 rfl) ?_
          refine lv_aload_n X.1 X.2.1 dX10_worthOfWay_30 rfl (lv_at hl 1 rfl) ?_
          refine gM_model_kinds X I tb_699 dX10_worthOfWay_31 ?_
          refine lv_iload_n X.1 X.2.1 dX10_worthOfWay_34 rfl (lv_at hl 2 rfl) ?_
          refine aM_kinds X I (v := kd) e_kd (by omega) dX10_worthOfWay_35 ?_
          refine ri_const X (v := 2) dX10_worthOfWay_36 ?_
          refine rj_ne (tgt := 60) X (by omega) (by omega) dX10_worthOfWay_37 (by decide) (fun c7 => ?_) (fun c7 => ?_)
          · skip
            refine lv_aload_n X.1 X.2.1 dX10_worthOfWay_60 rfl (lv_at hl 1 rfl) ?_
            refine gM_model_worths X I tb_702 dX10_worthOfWay_61 ?_
            refine ri_const X (v := 0) dX10_worthOfWay_64 ?_
            refine aM_worths X I (v := b_) e_b_ (by omega) dX10_worthOfWay_65 ?_
            refine ri_add X (v := (((wmv (opl (bgv (fun z_ => sa (12 * x + z_)) n_.toNat) kd b_) (ost kd r_ g_) a k.toNat) + 50) + b_)) rfl dX10_worthOfWay_66 ?_
            refine lv_istore_n (lv' := [(2, .int (iI (((wmv (opl (bgv (fun z_ => sa (12 * x + z_)) n_.toNat) kd b_) (ost kd r_ g_) a k.toNat) + 50) + b_))), (0, .ref (G.2.2 0)), (1, .int (iI x)), (3, .int (iI k))]) X.1 X.2.1 dX10_worthOfWay_67 rfl hl (by decide) rfl (fun ls hl => ?_)
            have hl : lv_has ls 5 [(2, .int (iI ((wmv (opl (bgv (fun z_ => sa (12 * x + z_)) n_.toNat) kd b_) (ost kd r_ g_) a k.toNat) + (opl (bgv (fun z_ => sa (12 * x + z_)) n_.toNat) kd b_) (a k)))), (0, .ref (G.2.2 0)), (1, .int (iI x)), (3, .int (iI k))] := by
              have e_ : (((wmv (opl (bgv (fun z_ => sa (12 * x + z_)) n_.toNat) kd b_) (ost kd r_ g_) a k.toNat) + 50) + b_) = ((wmv (opl (bgv (fun z_ => sa (12 * x + z_)) n_.toNat) kd b_) (ost kd r_ g_) a k.toNat) + (opl (bgv (fun z_ => sa (12 * x + z_)) n_.toNat) kd b_) (a k)) := by first | rw [opl_n ⟨by omega, by omega⟩ (by assumption)] | (rw [opl_2 ⟨by omega, by omega⟩ (by assumption) (by omega)]; omega) | (rw [opl_1 ⟨by omega, by omega⟩ (by assumption) (by omega)]; omega)
              rw [← e_]; exact hl
            refine lv_iload_n X.1 X.2.1 dX10_worthOfWay_68 rfl (lv_at hl 3 rfl) ?_
            refine rz_le (tgt := 130) X (by omega) dX10_worthOfWay_69 (by decide) (fun c8 => ?_) (fun c8 => ?_)
            · skip
              have hl : lv_has ls 5 [(2, .int (iI (((wmv (opl (bgv (fun z_ => sa (12 * x + z_)) n_.toNat) kd b_) (ost kd r_ g_) a k.toNat) + (opl (bgv (fun z_ => sa (12 * x + z_)) n_.toNat) kd b_) (a k)) + (if k = 0 then 0 else ost kd r_ g_ (a (k - 1)) (a k))))), (0, .ref (G.2.2 0)), (1, .int (iI x)), (3, .int (iI k))] := by
                have e_ : ((wmv (opl (bgv (fun z_ => sa (12 * x + z_)) n_.toNat) kd b_) (ost kd r_ g_) a k.toNat) + (opl (bgv (fun z_ => sa (12 * x + z_)) n_.toNat) kd b_) (a k)) = (((wmv (opl (bgv (fun z_ => sa (12 * x + z_)) n_.toNat) kd b_) (ost kd r_ g_) a k.toNat) + (opl (bgv (fun z_ => sa (12 * x + z_)) n_.toNat) kd b_) (a k)) + (if k = 0 then 0 else ost kd r_ g_ (a (k - 1)) (a k))) := by first | (rw [if_pos (by omega)]; omega) | (rw [if_neg (by omega)]; unfold ost; rw [if_pos (by omega)]) | (rw [if_neg (by omega)]; unfold ost; rw [if_neg (by omega), if_pos (by omega)]; omega) | (rw [if_neg (by omega)]; unfold ost; rw [if_neg (by omega), if_neg (by omega), Int.neg_mul]; exact Int.sub_eq_add_neg)
                rw [← e_]; exact hl
              refine ri_iinc X (k := 3) (v := (k + 1)) (lv' := [(3, .int (iI (k + 1))), (2, .int (iI (((wmv (opl (bgv (fun z_ => sa (12 * x + z_)) n_.toNat) kd b_) (ost kd r_ g_) a k.toNat) + (opl (bgv (fun z_ => sa (12 * x + z_)) n_.toNat) kd b_) (a k)) + (if k = 0 then 0 else ost kd r_ g_ (a (k - 1)) (a k))))), (0, .ref (G.2.2 0)), (1, .int (iI x))]) rfl dX10_worthOfWay_130 hl rfl (by decide) rfl (fun ls hl => ?_)
              refine lv_goto (tgt := 4) X.1 X.2.1 dX10_worthOfWay_133 (by decide) ?_
              have hl : lv_has ls 5 [(3, .int (iI (k + 1))), (2, .int (iI (wmv (opl (bgv (fun z_ => sa (12 * x + z_)) n_.toNat) kd b_) (ost kd r_ g_) a (k + 1).toNat))), (0, .ref (G.2.2 0)), (1, .int (iI x))] := by
                have e_ : (((wmv (opl (bgv (fun z_ => sa (12 * x + z_)) n_.toNat) kd b_) (ost kd r_ g_) a k.toNat) + (opl (bgv (fun z_ => sa (12 * x + z_)) n_.toNat) kd b_) (a k)) + (if k = 0 then 0 else ost kd r_ g_ (a (k - 1)) (a k))) = (wmv (opl (bgv (fun z_ => sa (12 * x + z_)) n_.toNat) kd b_) (ost kd r_ g_) a (k + 1).toNat) := (wmv_s (by omega)).symm
                rw [← e_]; exact hl
              exact ih_4 (k + 1) (by omega) (by omega) _ _ I ls (lv_sub hl [2, 3, 1, 0] rfl)
            · skip
              have hak1 := ha (k - 1) (by omega) (by omega)
              refine lv_aload_n X.1 X.2.1 dX10_worthOfWay_72 rfl (lv_at hl 1 rfl) ?_
              refine gM_model_at X I tb_727 dX10_worthOfWay_73 ?_
              refine lv_iload_n X.1 X.2.1 dX10_worthOfWay_76 rfl (lv_at hl 3 rfl) ?_
              refine aM_at X I (v := (a k)) (e_a k) (by omega) dX10_worthOfWay_77 ?_
              refine lv_aload_n X.1 X.2.1 dX10_worthOfWay_78 rfl (lv_at hl 1 rfl) ?_
              refine gM_model_at X I tb_727 dX10_worthOfWay_79 ?_
              refine lv_iload_n X.1 X.2.1 dX10_worthOfWay_82 rfl (lv_at hl 3 rfl) ?_
              refine ri_const X (v := 1) dX10_worthOfWay_83 ?_
              refine ri_sub X (v := (k - 1)) rfl dX10_worthOfWay_84 ?_
              refine aM_at X I (v := (a (k - 1))) (e_a (k - 1)) (by omega) dX10_worthOfWay_85 ?_
              refine ri_sub X (v := ((a k) - (a (k - 1)))) rfl dX10_worthOfWay_86 ?_
              refine ri_const X (v := 1) dX10_worthOfWay_87 ?_
              refine ri_sub X (v := (((a k) - (a (k - 1))) - 1)) rfl dX10_worthOfWay_88 ?_
              refine lv_istore (lv' := [(4, .int (iI (((a k) - (a (k - 1))) - 1))), (2, .int (iI ((wmv (opl (bgv (fun z_ => sa (12 * x + z_)) n_.toNat) kd b_) (ost kd r_ g_) a k.toNat) + (opl (bgv (fun z_ => sa (12 * x + z_)) n_.toNat) kd b_) (a k)))), (0, .ref (G.2.2 0)), (1, .int (iI x)), (3, .int (iI k))]) X.1 X.2.1 dX10_worthOfWay_89 hl (by decide) rfl (fun ls hl => ?_)
              refine lv_iload X.1 X.2.1 dX10_worthOfWay_91 (lv_at hl 0 rfl) ?_
              refine rz_ne (tgt := 108) X (by omega) dX10_worthOfWay_93 (by decide) (fun c9 => ?_) (fun c9 => ?_)
              · skip
                refine lv_aload_n X.1 X.2.1 dX10_worthOfWay_108 rfl (lv_at hl 2 rfl) ?_
                refine gM_model_kinds X I tb_699 dX10_worthOfWay_109 ?_
                refine lv_iload_n X.1 X.2.1 dX10_worthOfWay_112 rfl (lv_at hl 3 rfl) ?_
                refine aM_kinds X I (v := kd) e_kd (by omega) dX10_worthOfWay_113 ?_
                refine ri_const X (v := 3) dX10_worthOfWay_114 ?_
                refine rj_eq (tgt := 130) X (by omega) (by omega) dX10_worthOfWay_115 (by decide) (fun c10 => ?_) (fun c10 => ?_)
                · skip
                  have hl : lv_has ls 5 [(4, .int (iI (((a k) - (a (k - 1))) - 1))), (2, .int (iI (((wmv (opl (bgv (fun z_ => sa (12 * x + z_)) n_.toNat) kd b_) (ost kd r_ g_) a k.toNat) + (opl (bgv (fun z_ => sa (12 * x + z_)) n_.toNat) kd b_) (a k)) + (if k = 0 then 0 else ost kd r_ g_ (a (k - 1)) (a k))))), (0, .ref (G.2.2 0)), (1, .int (iI x)), (3, .int (iI k))] := by
                    have e_ : ((wmv (opl (bgv (fun z_ => sa (12 * x + z_)) n_.toNat) kd b_) (ost kd r_ g_) a k.toNat) + (opl (bgv (fun z_ => sa (12 * x + z_)) n_.toNat) kd b_) (a k)) = (((wmv (opl (bgv (fun z_ => sa (12 * x + z_)) n_.toNat) kd b_) (ost kd r_ g_) a k.toNat) + (opl (bgv (fun z_ => sa (12 * x + z_)) n_.toNat) kd b_) (a k)) + (if k = 0 then 0 else ost kd r_ g_ (a (k - 1)) (a k))) := by first | (rw [if_pos (by omega)]; omega) | (rw [if_neg (by omega)]; unfold ost; rw [if_pos (by omega)]) | (rw [if_neg (by omega)]; unfold ost; rw [if_neg (by omega), if_pos (by omega)]; omega) | (rw [if_neg (by omega)]; unfold ost; rw [if_neg (by omega), if_neg (by omega), Int.neg_mul]; exact Int.sub_eq_add_neg)
                    rw [← e_]; exact hl
                  refine ri_iinc X (k := 4) (v := (k + 1)) (lv' := [(3, .int (iI (k + 1))), (4, .int (iI (((a k) - (a (k - 1))) - 1))), (2, .int (iI (((wmv (opl (bgv (fun z_ => sa (12 * x + z_)) n_.toNat) kd b_) (ost kd r_ g_) a k.toNat) + (opl (bgv (fun z_ => sa (12 * x + z_)) n_.toNat) kd b_) (a k)) + (if k = 0 then 0 else ost kd r_ g_ (a (k - 1)) (a k))))), (0, .ref (G.2.2 0)), (1, .int (iI x))]) rfl dX10_worthOfWay_130 hl rfl (by decide) rfl (fun ls hl => ?_)
                  refine lv_goto (tgt := 4) X.1 X.2.1 dX10_worthOfWay_133 (by decide) ?_
                  have hl : lv_has ls 5 [(3, .int (iI (k + 1))), (4, .int (iI (((a k) - (a (k - 1))) - 1))), (2, .int (iI (wmv (opl (bgv (fun z_ => sa (12 * x + z_)) n_.toNat) kd b_) (ost kd r_ g_) a (k + 1).toNat))), (0, .ref (G.2.2 0)), (1, .int (iI x))] := by
                    have e_ : (((wmv (opl (bgv (fun z_ => sa (12 * x + z_)) n_.toNat) kd b_) (ost kd r_ g_) a k.toNat) + (opl (bgv (fun z_ => sa (12 * x + z_)) n_.toNat) kd b_) (a k)) + (if k = 0 then 0 else ost kd r_ g_ (a (k - 1)) (a k))) = (wmv (opl (bgv (fun z_ => sa (12 * x + z_)) n_.toNat) kd b_) (ost kd r_ g_) a (k + 1).toNat) := (wmv_s (by omega)).symm
                    rw [← e_]; exact hl
                  exact ih_4 (k + 1) (by omega) (by omega) _ _ I ls (lv_sub hl [3, 4, 2, 0] rfl)
                · skip
                  refine lv_iload_n X.1 X.2.1 dX10_worthOfWay_118 rfl (lv_at hl 1 rfl) ?_
                  refine lv_aload_n X.1 X.2.1 dX10_worthOfWay_119 rfl (lv_at hl 2 rfl) ?_
                  refine gM_model_worths X I tb_702 dX10_worthOfWay_120 ?_
                  refine ri_const X (v := 2) dX10_worthOfWay_123 ?_
                  refine aM_worths X I (v := g_) e_g_ (by omega) dX10_worthOfWay_124 ?_
                  refine lv_iload X.1 X.2.1 dX10_worthOfWay_125 (lv_at hl 0 rfl) ?_
                  refine ri_mul X (v := (g_ * (((a k) - (a (k - 1))) - 1))) rfl dX10_worthOfWay_127 ?_
                  refine ri_sub X (v := (((wmv (opl (bgv (fun z_ => sa (12 * x + z_)) n_.toNat) kd b_) (ost kd r_ g_) a k.toNat) + (opl (bgv (fun z_ => sa (12 * x + z_)) n_.toNat) kd b_) (a k)) - (g_ * (((a k) - (a (k - 1))) - 1)))) rfl dX10_worthOfWay_128 ?_
                  refine lv_istore_n (lv' := [(2, .int (iI (((wmv (opl (bgv (fun z_ => sa (12 * x + z_)) n_.toNat) kd b_) (ost kd r_ g_) a k.toNat) + (opl (bgv (fun z_ => sa (12 * x + z_)) n_.toNat) kd b_) (a k)) - (g_ * (((a k) - (a (k - 1))) - 1))))), (4, .int (iI (((a k) - (a (k - 1))) - 1))), (0, .ref (G.2.2 0)), (1, .int (iI x)), (3, .int (iI k))]) X.1 X.2.1 dX10_worthOfWay_129 rfl hl (by decide) rfl (fun ls hl => ?_)
                  have hl : lv_has ls 5 [(2, .int (iI (((wmv (opl (bgv (fun z_ => sa (12 * x + z_)) n_.toNat) kd b_) (ost kd r_ g_) a k.toNat) + (opl (bgv (fun z_ => sa (12 * x + z_)) n_.toNat) kd b_) (a k)) + (if k = 0 then 0 else ost kd r_ g_ (a (k - 1)) (a k))))), (4, .int (iI (((a k) - (a (k - 1))) - 1))), (0, .ref (G.2.2 0)), (1, .int (iI x)), (3, .int (iI k))] := by
                    have e_ : (((wmv (opl (bgv (fun z_ => sa (12 * x + z_)) n_.toNat) kd b_) (ost kd r_ g_) a k.toNat) + (opl (bgv (fun z_ => sa (12 * x + z_)) n_.toNat) kd b_) (a k)) - (g_ * (((a k) - (a (k - 1))) - 1))) = (((wmv (opl (bgv (fun z_ => sa (12 * x + z_)) n_.toNat) kd b_) (ost kd r_ g_) a k.toNat) + (opl (bgv (fun z_ => sa (12 * x + z_)) n_.toNat) kd b_) (a k)) + (if k = 0 then 0 else ost kd r_ g_ (a (k - 1)) (a k))) := by first | (rw [if_pos (by omega)]; omega) | (rw [if_neg (by omega)]; unfold ost; rw [if_pos (by omega)]) | (rw [if_neg (by omega)]; unfold ost; rw [if_neg (by omega), if_pos (by omega)]; omega) | (rw [if_neg (by omega)]; unfold ost; rw [if_neg (by omega), if_neg (by omega), Int.neg_mul]; exact Int.sub_eq_add_neg)
                    rw [← e_]; exact hl
                  refine ri_iinc X (k := 4) (v := (k + 1)) (lv' := [(3, .int (iI (k + 1))), (2, .int (iI (((wmv (opl (bgv (fun z_ => sa (12 * x + z_)) n_.toNat) kd b_) (ost kd r_ g_) a k.toNat) + (opl (bgv (fun z_ => sa (12 * x + z_)) n_.toNat) kd b_) (a k)) + (if k = 0 then 0 else ost kd r_ g_ (a (k - 1)) (a k))))), (4, .int (iI (((a k) - (a (k - 1))) - 1))), (0, .ref (G.2.2 0)), (1, .int (iI x))]) rfl dX10_worthOfWay_130 hl rfl (by decide) rfl (fun ls hl => ?_)
                  refine lv_goto (tgt := 4) X.1 X.2.1 dX10_worthOfWay_133 (by decide) ?_
                  have hl : lv_has ls 5 [(3, .int (iI (k + 1))), (2, .int (iI (wmv (opl (bgv (fun z_ => sa (12 * x + z_)) n_.toNat) kd b_) (ost kd r_ g_) a (k + 1).toNat))), (4, .int (iI (((a k) - (a (k - 1))) - 1))), (0, .ref (G.2.2 0)), (1, .int (iI x))] := by
                    have e_ : (((wmv (opl (bgv (fun z_ => sa (12 * x + z_)) n_.toNat) kd b_) (ost kd r_ g_) a k.toNat) + (opl (bgv (fun z_ => sa (12 * x + z_)) n_.toNat) kd b_) (a k)) + (if k = 0 then 0 else ost kd r_ g_ (a (k - 1)) (a k))) = (wmv (opl (bgv (fun z_ => sa (12 * x + z_)) n_.toNat) kd b_) (ost kd r_ g_) a (k + 1).toNat) := (wmv_s (by omega)).symm
                    rw [← e_]; exact hl
                  exact ih_4 (k + 1) (by omega) (by omega) _ _ I ls (lv_sub hl [3, 4, 1, 0] rfl)
              · skip
                refine lv_iload_n X.1 X.2.1 dX10_worthOfWay_96 rfl (lv_at hl 1 rfl) ?_
                refine lv_aload_n X.1 X.2.1 dX10_worthOfWay_97 rfl (lv_at hl 2 rfl) ?_
                refine gM_model_worths X I tb_702 dX10_worthOfWay_98 ?_
                refine ri_const X (v := 1) dX10_worthOfWay_101 ?_
                refine aM_worths X I (v := r_) e_r_ (by omega) dX10_worthOfWay_102 ?_
                refine ri_add X (v := (((wmv (opl (bgv (fun z_ => sa (12 * x + z_)) n_.toNat) kd b_) (ost kd r_ g_) a k.toNat) + (opl (bgv (fun z_ => sa (12 * x + z_)) n_.toNat) kd b_) (a k)) + r_)) rfl dX10_worthOfWay_103 ?_
                refine lv_istore_n (lv' := [(2, .int (iI (((wmv (opl (bgv (fun z_ => sa (12 * x + z_)) n_.toNat) kd b_) (ost kd r_ g_) a k.toNat) + (opl (bgv (fun z_ => sa (12 * x + z_)) n_.toNat) kd b_) (a k)) + r_))), (4, .int (iI (((a k) - (a (k - 1))) - 1))), (0, .ref (G.2.2 0)), (1, .int (iI x)), (3, .int (iI k))]) X.1 X.2.1 dX10_worthOfWay_104 rfl hl (by decide) rfl (fun ls hl => ?_)
                refine lv_goto (tgt := 130) X.1 X.2.1 dX10_worthOfWay_105 (by decide) ?_
                have hl : lv_has ls 5 [(2, .int (iI (((wmv (opl (bgv (fun z_ => sa (12 * x + z_)) n_.toNat) kd b_) (ost kd r_ g_) a k.toNat) + (opl (bgv (fun z_ => sa (12 * x + z_)) n_.toNat) kd b_) (a k)) + (if k = 0 then 0 else ost kd r_ g_ (a (k - 1)) (a k))))), (4, .int (iI (((a k) - (a (k - 1))) - 1))), (0, .ref (G.2.2 0)), (1, .int (iI x)), (3, .int (iI k))] := by
                  have e_ : (((wmv (opl (bgv (fun z_ => sa (12 * x + z_)) n_.toNat) kd b_) (ost kd r_ g_) a k.toNat) + (opl (bgv (fun z_ => sa (12 * x + z_)) n_.toNat) kd b_) (a k)) + r_) = (((wmv (opl (bgv (fun z_ => sa (12 * x + z_)) n_.toNat) kd b_) (ost kd r_ g_) a k.toNat) + (opl (bgv (fun z_ => sa (12 * x + z_)) n_.toNat) kd b_) (a k)) + (if k = 0 then 0 else ost kd r_ g_ (a (k - 1)) (a k))) := by first | (rw [if_pos (by omega)]; omega) | (rw [if_neg (by omega)]; unfold ost; rw [if_pos (by omega)]) | (rw [if_neg (by omega)]; unfold ost; rw [if_neg (by omega), if_pos (by omega)]; omega) | (rw [if_neg (by omega)]; unfold ost; rw [if_neg (by omega), if_neg (by omega), Int.neg_mul]; exact Int.sub_eq_add_neg)
                  rw [← e_]; exact hl
                refine ri_iinc X (k := 4) (v := (k + 1)) (lv' := [(3, .int (iI (k + 1))), (2, .int (iI (((wmv (opl (bgv (fun z_ => sa (12 * x + z_)) n_.toNat) kd b_) (ost kd r_ g_) a k.toNat) + (opl (bgv (fun z_ => sa (12 * x + z_)) n_.toNat) kd b_) (a k)) + (if k = 0 then 0 else ost kd r_ g_ (a (k - 1)) (a k))))), (4, .int (iI (((a k) - (a (k - 1))) - 1))), (0, .ref (G.2.2 0)), (1, .int (iI x))]) rfl dX10_worthOfWay_130 hl rfl (by decide) rfl (fun ls hl => ?_)
                refine lv_goto (tgt := 4) X.1 X.2.1 dX10_worthOfWay_133 (by decide) ?_
                have hl : lv_has ls 5 [(3, .int (iI (k + 1))), (2, .int (iI (wmv (opl (bgv (fun z_ => sa (12 * x + z_)) n_.toNat) kd b_) (ost kd r_ g_) a (k + 1).toNat))), (4, .int (iI (((a k) - (a (k - 1))) - 1))), (0, .ref (G.2.2 0)), (1, .int (iI x))] := by
                  have e_ : (((wmv (opl (bgv (fun z_ => sa (12 * x + z_)) n_.toNat) kd b_) (ost kd r_ g_) a k.toNat) + (opl (bgv (fun z_ => sa (12 * x + z_)) n_.toNat) kd b_) (a k)) + (if k = 0 then 0 else ost kd r_ g_ (a (k - 1)) (a k))) = (wmv (opl (bgv (fun z_ => sa (12 * x + z_)) n_.toNat) kd b_) (ost kd r_ g_) a (k + 1).toNat) := (wmv_s (by omega)).symm
                  rw [← e_]; exact hl
                exact ih_4 (k + 1) (by omega) (by omega) _ _ I ls (lv_sub hl [3, 4, 1, 0] rfl)
          · skip
            refine lv_aload_n X.1 X.2.1 dX10_worthOfWay_40 rfl (lv_at hl 1 rfl) ?_
            refine gM_model_at X I tb_727 dX10_worthOfWay_41 ?_
            refine lv_iload_n X.1 X.2.1 dX10_worthOfWay_44 rfl (lv_at hl 3 rfl) ?_
            refine aM_at X I (v := (a k)) (e_a k) (by omega) dX10_worthOfWay_45 ?_
            refine rz_ne (tgt := 60) X (by omega) dX10_worthOfWay_46 (by decide) (fun c11 => ?_) (fun c11 => ?_)
            · skip
              refine lv_aload_n X.1 X.2.1 dX10_worthOfWay_60 rfl (lv_at hl 1 rfl) ?_
              refine gM_model_worths X I tb_702 dX10_worthOfWay_61 ?_
              refine ri_const X (v := 0) dX10_worthOfWay_64 ?_
              refine aM_worths X I (v := b_) e_b_ (by omega) dX10_worthOfWay_65 ?_
              refine ri_add X (v := (((wmv (opl (bgv (fun z_ => sa (12 * x + z_)) n_.toNat) kd b_) (ost kd r_ g_) a k.toNat) + 50) + b_)) rfl dX10_worthOfWay_66 ?_
              refine lv_istore_n (lv' := [(2, .int (iI (((wmv (opl (bgv (fun z_ => sa (12 * x + z_)) n_.toNat) kd b_) (ost kd r_ g_) a k.toNat) + 50) + b_))), (0, .ref (G.2.2 0)), (1, .int (iI x)), (3, .int (iI k))]) X.1 X.2.1 dX10_worthOfWay_67 rfl hl (by decide) rfl (fun ls hl => ?_)
              have hl : lv_has ls 5 [(2, .int (iI ((wmv (opl (bgv (fun z_ => sa (12 * x + z_)) n_.toNat) kd b_) (ost kd r_ g_) a k.toNat) + (opl (bgv (fun z_ => sa (12 * x + z_)) n_.toNat) kd b_) (a k)))), (0, .ref (G.2.2 0)), (1, .int (iI x)), (3, .int (iI k))] := by
                have e_ : (((wmv (opl (bgv (fun z_ => sa (12 * x + z_)) n_.toNat) kd b_) (ost kd r_ g_) a k.toNat) + 50) + b_) = ((wmv (opl (bgv (fun z_ => sa (12 * x + z_)) n_.toNat) kd b_) (ost kd r_ g_) a k.toNat) + (opl (bgv (fun z_ => sa (12 * x + z_)) n_.toNat) kd b_) (a k)) := by first | rw [opl_n ⟨by omega, by omega⟩ (by assumption)] | (rw [opl_2 ⟨by omega, by omega⟩ (by assumption) (by omega)]; omega) | (rw [opl_1 ⟨by omega, by omega⟩ (by assumption) (by omega)]; omega)
                rw [← e_]; exact hl
              refine lv_iload_n X.1 X.2.1 dX10_worthOfWay_68 rfl (lv_at hl 3 rfl) ?_
              refine rz_le (tgt := 130) X (by omega) dX10_worthOfWay_69 (by decide) (fun c12 => ?_) (fun c12 => ?_)
              · skip
                have hl : lv_has ls 5 [(2, .int (iI (((wmv (opl (bgv (fun z_ => sa (12 * x + z_)) n_.toNat) kd b_) (ost kd r_ g_) a k.toNat) + (opl (bgv (fun z_ => sa (12 * x + z_)) n_.toNat) kd b_) (a k)) + (if k = 0 then 0 else ost kd r_ g_ (a (k - 1)) (a k))))), (0, .ref (G.2.2 0)), (1, .int (iI x)), (3, .int (iI k))] := by
                  have e_ : ((wmv (opl (bgv (fun z_ => sa (12 * x + z_)) n_.toNat) kd b_) (ost kd r_ g_) a k.toNat) + (opl (bgv (fun z_ => sa (12 * x + z_)) n_.toNat) kd b_) (a k)) = (((wmv (opl (bgv (fun z_ => sa (12 * x + z_)) n_.toNat) kd b_) (ost kd r_ g_) a k.toNat) + (opl (bgv (fun z_ => sa (12 * x + z_)) n_.toNat) kd b_) (a k)) + (if k = 0 then 0 else ost kd r_ g_ (a (k - 1)) (a k))) := by first | (rw [if_pos (by omega)]; omega) | (rw [if_neg (by omega)]; unfold ost; rw [if_pos (by omega)]) | (rw [if_neg (by omega)]; unfold ost; rw [if_neg (by omega), if_pos (by omega)]; omega) | (rw [if_neg (by omega)]; unfold ost; rw [if_neg (by omega), if_neg (by omega), Int.neg_mul]; exact Int.sub_eq_add_neg)
                  rw [← e_]; exact hl
                refine ri_iinc X (k := 3) (v := (k + 1)) (lv' := [(3, .int (iI (k + 1))), (2, .int (iI (((wmv (opl (bgv (fun z_ => sa (12 * x + z_)) n_.toNat) kd b_) (ost kd r_ g_) a k.toNat) + (opl (bgv (fun z_ => sa (12 * x + z_)) n_.toNat) kd b_) (a k)) + (if k = 0 then 0 else ost kd r_ g_ (a (k - 1)) (a k))))), (0, .ref (G.2.2 0)), (1, .int (iI x))]) rfl dX10_worthOfWay_130 hl rfl (by decide) rfl (fun ls hl => ?_)
                refine lv_goto (tgt := 4) X.1 X.2.1 dX10_worthOfWay_133 (by decide) ?_
                have hl : lv_has ls 5 [(3, .int (iI (k + 1))), (2, .int (iI (wmv (opl (bgv (fun z_ => sa (12 * x + z_)) n_.toNat) kd b_) (ost kd r_ g_) a (k + 1).toNat))), (0, .ref (G.2.2 0)), (1, .int (iI x))] := by
                  have e_ : (((wmv (opl (bgv (fun z_ => sa (12 * x + z_)) n_.toNat) kd b_) (ost kd r_ g_) a k.toNat) + (opl (bgv (fun z_ => sa (12 * x + z_)) n_.toNat) kd b_) (a k)) + (if k = 0 then 0 else ost kd r_ g_ (a (k - 1)) (a k))) = (wmv (opl (bgv (fun z_ => sa (12 * x + z_)) n_.toNat) kd b_) (ost kd r_ g_) a (k + 1).toNat) := (wmv_s (by omega)).symm
                  rw [← e_]; exact hl
                exact ih_4 (k + 1) (by omega) (by omega) _ _ I ls (lv_sub hl [2, 3, 1, 0] rfl)
              · skip
                have hak1 := ha (k - 1) (by omega) (by omega)
                refine lv_aload_n X.1 X.2.1 dX10_worthOfWay_72 rfl (lv_at hl 1 rfl) ?_
                refine gM_model_at X I tb_727 dX10_worthOfWay_73 ?_
                refine lv_iload_n X.1 X.2.1 dX10_worthOfWay_76 rfl (lv_at hl 3 rfl) ?_
                refine aM_at X I (v := (a k)) (e_a k) (by omega) dX10_worthOfWay_77 ?_
                refine lv_aload_n X.1 X.2.1 dX10_worthOfWay_78 rfl (lv_at hl 1 rfl) ?_
                refine gM_model_at X I tb_727 dX10_worthOfWay_79 ?_
                refine lv_iload_n X.1 X.2.1 dX10_worthOfWay_82 rfl (lv_at hl 3 rfl) ?_
                refine ri_const X (v := 1) dX10_worthOfWay_83 ?_
                refine ri_sub X (v := (k - 1)) rfl dX10_worthOfWay_84 ?_
                refine aM_at X I (v := (a (k - 1))) (e_a (k - 1)) (by omega) dX10_worthOfWay_85 ?_
                refine ri_sub X (v := ((a k) - (a (k - 1)))) rfl dX10_worthOfWay_86 ?_
                refine ri_const X (v := 1) dX10_worthOfWay_87 ?_
                refine ri_sub X (v := (((a k) - (a (k - 1))) - 1)) rfl dX10_worthOfWay_88 ?_
                refine lv_istore (lv' := [(4, .int (iI (((a k) - (a (k - 1))) - 1))), (2, .int (iI ((wmv (opl (bgv (fun z_ => sa (12 * x + z_)) n_.toNat) kd b_) (ost kd r_ g_) a k.toNat) + (opl (bgv (fun z_ => sa (12 * x + z_)) n_.toNat) kd b_) (a k)))), (0, .ref (G.2.2 0)), (1, .int (iI x)), (3, .int (iI k))]) X.1 X.2.1 dX10_worthOfWay_89 hl (by decide) rfl (fun ls hl => ?_)
                refine lv_iload X.1 X.2.1 dX10_worthOfWay_91 (lv_at hl 0 rfl) ?_
                refine rz_ne (tgt := 108) X (by omega) dX10_worthOfWay_93 (by decide) (fun c13 => ?_) (fun c13 => ?_)
                · skip
                  refine lv_aload_n X.1 X.2.1 dX10_worthOfWay_108 rfl (lv_at hl 2 rfl) ?_
                  refine gM_model_kinds X I tb_699 dX10_worthOfWay_109 ?_
                  refine lv_iload_n X.1 X.2.1 dX10_worthOfWay_112 rfl (lv_at hl 3 rfl) ?_
                  refine aM_kinds X I (v := kd) e_kd (by omega) dX10_worthOfWay_113 ?_
                  refine ri_const X (v := 3) dX10_worthOfWay_114 ?_
                  refine rj_eq (tgt := 130) X (by omega) (by omega) dX10_worthOfWay_115 (by decide) (fun c14 => ?_) (fun c14 => ?_)
                  · skip
                    have hl : lv_has ls 5 [(4, .int (iI (((a k) - (a (k - 1))) - 1))), (2, .int (iI (((wmv (opl (bgv (fun z_ => sa (12 * x + z_)) n_.toNat) kd b_) (ost kd r_ g_) a k.toNat) + (opl (bgv (fun z_ => sa (12 * x + z_)) n_.toNat) kd b_) (a k)) + (if k = 0 then 0 else ost kd r_ g_ (a (k - 1)) (a k))))), (0, .ref (G.2.2 0)), (1, .int (iI x)), (3, .int (iI k))] := by
                      have e_ : ((wmv (opl (bgv (fun z_ => sa (12 * x + z_)) n_.toNat) kd b_) (ost kd r_ g_) a k.toNat) + (opl (bgv (fun z_ => sa (12 * x + z_)) n_.toNat) kd b_) (a k)) = (((wmv (opl (bgv (fun z_ => sa (12 * x + z_)) n_.toNat) kd b_) (ost kd r_ g_) a k.toNat) + (opl (bgv (fun z_ => sa (12 * x + z_)) n_.toNat) kd b_) (a k)) + (if k = 0 then 0 else ost kd r_ g_ (a (k - 1)) (a k))) := by first | (rw [if_pos (by omega)]; omega) | (rw [if_neg (by omega)]; unfold ost; rw [if_pos (by omega)]) | (rw [if_neg (by omega)]; unfold ost; rw [if_neg (by omega), if_pos (by omega)]; omega) | (rw [if_neg (by omega)]; unfold ost; rw [if_neg (by omega), if_neg (by omega), Int.neg_mul]; exact Int.sub_eq_add_neg)
                      rw [← e_]; exact hl
                    refine ri_iinc X (k := 4) (v := (k + 1)) (lv' := [(3, .int (iI (k + 1))), (4, .int (iI (((a k) - (a (k - 1))) - 1))), (2, .int (iI (((wmv (opl (bgv (fun z_ => sa (12 * x + z_)) n_.toNat) kd b_) (ost kd r_ g_) a k.toNat) + (opl (bgv (fun z_ => sa (12 * x + z_)) n_.toNat) kd b_) (a k)) + (if k = 0 then 0 else ost kd r_ g_ (a (k - 1)) (a k))))), (0, .ref (G.2.2 0)), (1, .int (iI x))]) rfl dX10_worthOfWay_130 hl rfl (by decide) rfl (fun ls hl => ?_)
                    refine lv_goto (tgt := 4) X.1 X.2.1 dX10_worthOfWay_133 (by decide) ?_
                    have hl : lv_has ls 5 [(3, .int (iI (k + 1))), (4, .int (iI (((a k) - (a (k - 1))) - 1))), (2, .int (iI (wmv (opl (bgv (fun z_ => sa (12 * x + z_)) n_.toNat) kd b_) (ost kd r_ g_) a (k + 1).toNat))), (0, .ref (G.2.2 0)), (1, .int (iI x))] := by
                      have e_ : (((wmv (opl (bgv (fun z_ => sa (12 * x + z_)) n_.toNat) kd b_) (ost kd r_ g_) a k.toNat) + (opl (bgv (fun z_ => sa (12 * x + z_)) n_.toNat) kd b_) (a k)) + (if k = 0 then 0 else ost kd r_ g_ (a (k - 1)) (a k))) = (wmv (opl (bgv (fun z_ => sa (12 * x + z_)) n_.toNat) kd b_) (ost kd r_ g_) a (k + 1).toNat) := (wmv_s (by omega)).symm
                      rw [← e_]; exact hl
                    exact ih_4 (k + 1) (by omega) (by omega) _ _ I ls (lv_sub hl [3, 4, 2, 0] rfl)
                  · skip
                    refine lv_iload_n X.1 X.2.1 dX10_worthOfWay_118 rfl (lv_at hl 1 rfl) ?_
                    refine lv_aload_n X.1 X.2.1 dX10_worthOfWay_119 rfl (lv_at hl 2 rfl) ?_
                    refine gM_model_worths X I tb_702 dX10_worthOfWay_120 ?_
                    refine ri_const X (v := 2) dX10_worthOfWay_123 ?_
                    refine aM_worths X I (v := g_) e_g_ (by omega) dX10_worthOfWay_124 ?_
                    refine lv_iload X.1 X.2.1 dX10_worthOfWay_125 (lv_at hl 0 rfl) ?_
                    refine ri_mul X (v := (g_ * (((a k) - (a (k - 1))) - 1))) rfl dX10_worthOfWay_127 ?_
                    refine ri_sub X (v := (((wmv (opl (bgv (fun z_ => sa (12 * x + z_)) n_.toNat) kd b_) (ost kd r_ g_) a k.toNat) + (opl (bgv (fun z_ => sa (12 * x + z_)) n_.toNat) kd b_) (a k)) - (g_ * (((a k) - (a (k - 1))) - 1)))) rfl dX10_worthOfWay_128 ?_
                    refine lv_istore_n (lv' := [(2, .int (iI (((wmv (opl (bgv (fun z_ => sa (12 * x + z_)) n_.toNat) kd b_) (ost kd r_ g_) a k.toNat) + (opl (bgv (fun z_ => sa (12 * x + z_)) n_.toNat) kd b_) (a k)) - (g_ * (((a k) - (a (k - 1))) - 1))))), (4, .int (iI (((a k) - (a (k - 1))) - 1))), (0, .ref (G.2.2 0)), (1, .int (iI x)), (3, .int (iI k))]) X.1 X.2.1 dX10_worthOfWay_129 rfl hl (by decide) rfl (fun ls hl => ?_)
                    have hl : lv_has ls 5 [(2, .int (iI (((wmv (opl (bgv (fun z_ => sa (12 * x + z_)) n_.toNat) kd b_) (ost kd r_ g_) a k.toNat) + (opl (bgv (fun z_ => sa (12 * x + z_)) n_.toNat) kd b_) (a k)) + (if k = 0 then 0 else ost kd r_ g_ (a (k - 1)) (a k))))), (4, .int (iI (((a k) - (a (k - 1))) - 1))), (0, .ref (G.2.2 0)), (1, .int (iI x)), (3, .int (iI k))] := by
                      have e_ : (((wmv (opl (bgv (fun z_ => sa (12 * x + z_)) n_.toNat) kd b_) (ost kd r_ g_) a k.toNat) + (opl (bgv (fun z_ => sa (12 * x + z_)) n_.toNat) kd b_) (a k)) - (g_ * (((a k) - (a (k - 1))) - 1))) = (((wmv (opl (bgv (fun z_ => sa (12 * x + z_)) n_.toNat) kd b_) (ost kd r_ g_) a k.toNat) + (opl (bgv (fun z_ => sa (12 * x + z_)) n_.toNat) kd b_) (a k)) + (if k = 0 then 0 else ost kd r_ g_ (a (k - 1)) (a k))) := by first | (rw [if_pos (by omega)]; omega) | (rw [if_neg (by omega)]; unfold ost; rw [if_pos (by omega)]) | (rw [if_neg (by omega)]; unfold ost; rw [if_neg (by omega), if_pos (by omega)]; omega) | (rw [if_neg (by omega)]; unfold ost; rw [if_neg (by omega), if_neg (by omega), Int.neg_mul]; exact Int.sub_eq_add_neg)
                      rw [← e_]; exact hl
                    refine ri_iinc X (k := 4) (v := (k + 1)) (lv' := [(3, .int (iI (k + 1))), (2, .int (iI (((wmv (opl (bgv (fun z_ => sa (12 * x + z_)) n_.toNat) kd b_) (ost kd r_ g_) a k.toNat) + (opl (bgv (fun z_ => sa (12 * x + z_)) n_.toNat) kd b_) (a k)) + (if k = 0 then 0 else ost kd r_ g_ (a (k - 1)) (a k))))), (4, .int (iI (((a k) - (a (k - 1))) - 1))), (0, .ref (G.2.2 0)), (1, .int (iI x))]) rfl dX10_worthOfWay_130 hl rfl (by decide) rfl (fun ls hl => ?_)
                    refine lv_goto (tgt := 4) X.1 X.2.1 dX10_worthOfWay_133 (by decide) ?_
                    have hl : lv_has ls 5 [(3, .int (iI (k + 1))), (2, .int (iI (wmv (opl (bgv (fun z_ => sa (12 * x + z_)) n_.toNat) kd b_) (ost kd r_ g_) a (k + 1).toNat))), (4, .int (iI (((a k) - (a (k - 1))) - 1))), (0, .ref (G.2.2 0)), (1, .int (iI x))] := by
                      have e_ : (((wmv (opl (bgv (fun z_ => sa (12 * x + z_)) n_.toNat) kd b_) (ost kd r_ g_) a k.toNat) + (opl (bgv (fun z_ => sa (12 * x + z_)) n_.toNat) kd b_) (a k)) + (if k = 0 then 0 else ost kd r_ g_ (a (k - 1)) (a k))) = (wmv (opl (bgv (fun z_ => sa (12 * x + z_)) n_.toNat) kd b_) (ost kd r_ g_) a (k + 1).toNat) := (wmv_s (by omega)).symm
                      rw [← e_]; exact hl
                    exact ih_4 (k + 1) (by omega) (by omega) _ _ I ls (lv_sub hl [3, 4, 1, 0] rfl)
                · skip
                  refine lv_iload_n X.1 X.2.1 dX10_worthOfWay_96 rfl (lv_at hl 1 rfl) ?_
                  refine lv_aload_n X.1 X.2.1 dX10_worthOfWay_97 rfl (lv_at hl 2 rfl) ?_
                  refine gM_model_worths X I tb_702 dX10_worthOfWay_98 ?_
                  refine ri_const X (v := 1) dX10_worthOfWay_101 ?_
                  refine aM_worths X I (v := r_) e_r_ (by omega) dX10_worthOfWay_102 ?_
                  refine ri_add X (v := (((wmv (opl (bgv (fun z_ => sa (12 * x + z_)) n_.toNat) kd b_) (ost kd r_ g_) a k.toNat) + (opl (bgv (fun z_ => sa (12 * x + z_)) n_.toNat) kd b_) (a k)) + r_)) rfl dX10_worthOfWay_103 ?_
                  refine lv_istore_n (lv' := [(2, .int (iI (((wmv (opl (bgv (fun z_ => sa (12 * x + z_)) n_.toNat) kd b_) (ost kd r_ g_) a k.toNat) + (opl (bgv (fun z_ => sa (12 * x + z_)) n_.toNat) kd b_) (a k)) + r_))), (4, .int (iI (((a k) - (a (k - 1))) - 1))), (0, .ref (G.2.2 0)), (1, .int (iI x)), (3, .int (iI k))]) X.1 X.2.1 dX10_worthOfWay_104 rfl hl (by decide) rfl (fun ls hl => ?_)
                  refine lv_goto (tgt := 130) X.1 X.2.1 dX10_worthOfWay_105 (by decide) ?_
                  have hl : lv_has ls 5 [(2, .int (iI (((wmv (opl (bgv (fun z_ => sa (12 * x + z_)) n_.toNat) kd b_) (ost kd r_ g_) a k.toNat) + (opl (bgv (fun z_ => sa (12 * x + z_)) n_.toNat) kd b_) (a k)) + (if k = 0 then 0 else ost kd r_ g_ (a (k - 1)) (a k))))), (4, .int (iI (((a k) - (a (k - 1))) - 1))), (0, .ref (G.2.2 0)), (1, .int (iI x)), (3, .int (iI k))] := by
                    have e_ : (((wmv (opl (bgv (fun z_ => sa (12 * x + z_)) n_.toNat) kd b_) (ost kd r_ g_) a k.toNat) + (opl (bgv (fun z_ => sa (12 * x + z_)) n_.toNat) kd b_) (a k)) + r_) = (((wmv (opl (bgv (fun z_ => sa (12 * x + z_)) n_.toNat) kd b_) (ost kd r_ g_) a k.toNat) + (opl (bgv (fun z_ => sa (12 * x + z_)) n_.toNat) kd b_) (a k)) + (if k = 0 then 0 else ost kd r_ g_ (a (k - 1)) (a k))) := by first | (rw [if_pos (by omega)]; omega) | (rw [if_neg (by omega)]; unfold ost; rw [if_pos (by omega)]) | (rw [if_neg (by omega)]; unfold ost; rw [if_neg (by omega), if_pos (by omega)]; omega) | (rw [if_neg (by omega)]; unfold ost; rw [if_neg (by omega), if_neg (by omega), Int.neg_mul]; exact Int.sub_eq_add_neg)
                    rw [← e_]; exact hl
                  refine ri_iinc X (k := 4) (v := (k + 1)) (lv' := [(3, .int (iI (k + 1))), (2, .int (iI (((wmv (opl (bgv (fun z_ => sa (12 * x + z_)) n_.toNat) kd b_) (ost kd r_ g_) a k.toNat) + (opl (bgv (fun z_ => sa (12 * x + z_)) n_.toNat) kd b_) (a k)) + (if k = 0 then 0 else ost kd r_ g_ (a (k - 1)) (a k))))), (4, .int (iI (((a k) - (a (k - 1))) - 1))), (0, .ref (G.2.2 0)), (1, .int (iI x))]) rfl dX10_worthOfWay_130 hl rfl (by decide) rfl (fun ls hl => ?_)
                  refine lv_goto (tgt := 4) X.1 X.2.1 dX10_worthOfWay_133 (by decide) ?_
                  have hl : lv_has ls 5 [(3, .int (iI (k + 1))), (2, .int (iI (wmv (opl (bgv (fun z_ => sa (12 * x + z_)) n_.toNat) kd b_) (ost kd r_ g_) a (k + 1).toNat))), (4, .int (iI (((a k) - (a (k - 1))) - 1))), (0, .ref (G.2.2 0)), (1, .int (iI x))] := by
                    have e_ : (((wmv (opl (bgv (fun z_ => sa (12 * x + z_)) n_.toNat) kd b_) (ost kd r_ g_) a k.toNat) + (opl (bgv (fun z_ => sa (12 * x + z_)) n_.toNat) kd b_) (a k)) + (if k = 0 then 0 else ost kd r_ g_ (a (k - 1)) (a k))) = (wmv (opl (bgv (fun z_ => sa (12 * x + z_)) n_.toNat) kd b_) (ost kd r_ g_) a (k + 1).toNat) := (wmv_s (by omega)).symm
                    rw [← e_]; exact hl
                  exact ih_4 (k + 1) (by omega) (by omega) _ _ I ls (lv_sub hl [3, 4, 1, 0] rfl)
            · skip
              refine ri_const X (v := 2) dX10_worthOfWay_49 ?_
              refine lv_aload_n X.1 X.2.1 dX10_worthOfWay_50 rfl (lv_at hl 1 rfl) ?_
              refine gM_model_worths X I tb_702 dX10_worthOfWay_51 ?_
              refine ri_const X (v := 0) dX10_worthOfWay_54 ?_
              refine aM_worths X I (v := b_) e_b_ (by omega) dX10_worthOfWay_55 ?_
              refine ri_mul X (v := (2 * b_)) rfl dX10_worthOfWay_56 ?_
              refine lv_goto (tgt := 66) X.1 X.2.1 dX10_worthOfWay_57 (by decide) ?_
              refine ri_add X (v := (((wmv (opl (bgv (fun z_ => sa (12 * x + z_)) n_.toNat) kd b_) (ost kd r_ g_) a k.toNat) + 50) + (2 * b_))) rfl dX10_worthOfWay_66 ?_
              refine lv_istore_n (lv' := [(2, .int (iI (((wmv (opl (bgv (fun z_ => sa (12 * x + z_)) n_.toNat) kd b_) (ost kd r_ g_) a k.toNat) + 50) + (2 * b_)))), (0, .ref (G.2.2 0)), (1, .int (iI x)), (3, .int (iI k))]) X.1 X.2.1 dX10_worthOfWay_67 rfl hl (by decide) rfl (fun ls hl => ?_)
              have hl : lv_has ls 5 [(2, .int (iI ((wmv (opl (bgv (fun z_ => sa (12 * x + z_)) n_.toNat) kd b_) (ost kd r_ g_) a k.toNat) + (opl (bgv (fun z_ => sa (12 * x + z_)) n_.toNat) kd b_) (a k)))), (0, .ref (G.2.2 0)), (1, .int (iI x)), (3, .int (iI k))] := by
                have e_ : (((wmv (opl (bgv (fun z_ => sa (12 * x + z_)) n_.toNat) kd b_) (ost kd r_ g_) a k.toNat) + 50) + (2 * b_)) = ((wmv (opl (bgv (fun z_ => sa (12 * x + z_)) n_.toNat) kd b_) (ost kd r_ g_) a k.toNat) + (opl (bgv (fun z_ => sa (12 * x + z_)) n_.toNat) kd b_) (a k)) := by first | rw [opl_n ⟨by omega, by omega⟩ (by assumption)] | (rw [opl_2 ⟨by omega, by omega⟩ (by assumption) (by omega)]; omega) | (rw [opl_1 ⟨by omega, by omega⟩ (by assumption) (by omega)]; omega)
                rw [← e_]; exact hl
              refine lv_iload_n X.1 X.2.1 dX10_worthOfWay_68 rfl (lv_at hl 3 rfl) ?_
              refine rz_le (tgt := 130) X (by omega) dX10_worthOfWay_69 (by decide) (fun c15 => ?_) (fun c15 => ?_)
              · skip
                have hl : lv_has ls 5 [(2, .int (iI (((wmv (opl (bgv (fun z_ => sa (12 * x + z_)) n_.toNat) kd b_) (ost kd r_ g_) a k.toNat) + (opl (bgv (fun z_ => sa (12 * x + z_)) n_.toNat) kd b_) (a k)) + (if k = 0 then 0 else ost kd r_ g_ (a (k - 1)) (a k))))), (0, .ref (G.2.2 0)), (1, .int (iI x)), (3, .int (iI k))] := by
                  have e_ : ((wmv (opl (bgv (fun z_ => sa (12 * x + z_)) n_.toNat) kd b_) (ost kd r_ g_) a k.toNat) + (opl (bgv (fun z_ => sa (12 * x + z_)) n_.toNat) kd b_) (a k)) = (((wmv (opl (bgv (fun z_ => sa (12 * x + z_)) n_.toNat) kd b_) (ost kd r_ g_) a k.toNat) + (opl (bgv (fun z_ => sa (12 * x + z_)) n_.toNat) kd b_) (a k)) + (if k = 0 then 0 else ost kd r_ g_ (a (k - 1)) (a k))) := by first | (rw [if_pos (by omega)]; omega) | (rw [if_neg (by omega)]; unfold ost; rw [if_pos (by omega)]) | (rw [if_neg (by omega)]; unfold ost; rw [if_neg (by omega), if_pos (by omega)]; omega) | (rw [if_neg (by omega)]; unfold ost; rw [if_neg (by omega), if_neg (by omega), Int.neg_mul]; exact Int.sub_eq_add_neg)
                  rw [← e_]; exact hl
                refine ri_iinc X (k := 3) (v := (k + 1)) (lv' := [(3, .int (iI (k + 1))), (2, .int (iI (((wmv (opl (bgv (fun z_ => sa (12 * x + z_)) n_.toNat) kd b_) (ost kd r_ g_) a k.toNat) + (opl (bgv (fun z_ => sa (12 * x + z_)) n_.toNat) kd b_) (a k)) + (if k = 0 then 0 else ost kd r_ g_ (a (k - 1)) (a k))))), (0, .ref (G.2.2 0)), (1, .int (iI x))]) rfl dX10_worthOfWay_130 hl rfl (by decide) rfl (fun ls hl => ?_)
                refine lv_goto (tgt := 4) X.1 X.2.1 dX10_worthOfWay_133 (by decide) ?_
                have hl : lv_has ls 5 [(3, .int (iI (k + 1))), (2, .int (iI (wmv (opl (bgv (fun z_ => sa (12 * x + z_)) n_.toNat) kd b_) (ost kd r_ g_) a (k + 1).toNat))), (0, .ref (G.2.2 0)), (1, .int (iI x))] := by
                  have e_ : (((wmv (opl (bgv (fun z_ => sa (12 * x + z_)) n_.toNat) kd b_) (ost kd r_ g_) a k.toNat) + (opl (bgv (fun z_ => sa (12 * x + z_)) n_.toNat) kd b_) (a k)) + (if k = 0 then 0 else ost kd r_ g_ (a (k - 1)) (a k))) = (wmv (opl (bgv (fun z_ => sa (12 * x + z_)) n_.toNat) kd b_) (ost kd r_ g_) a (k + 1).toNat) := (wmv_s (by omega)).symm
                  rw [← e_]; exact hl
                exact ih_4 (k + 1) (by omega) (by omega) _ _ I ls (lv_sub hl [2, 3, 1, 0] rfl)
              · skip
                have hak1 := ha (k - 1) (by omega) (by omega)
                refine lv_aload_n X.1 X.2.1 dX10_worthOfWay_72 rfl (lv_at hl 1 rfl) ?_
                refine gM_model_at X I tb_727 dX10_worthOfWay_73 ?_
                refine lv_iload_n X.1 X.2.1 dX10_worthOfWay_76 rfl (lv_at hl 3 rfl) ?_
                refine aM_at X I (v := (a k)) (e_a k) (by omega) dX10_worthOfWay_77 ?_
                refine lv_aload_n X.1 X.2.1 dX10_worthOfWay_78 rfl (lv_at hl 1 rfl) ?_
                refine gM_model_at X I tb_727 dX10_worthOfWay_79 ?_
                refine lv_iload_n X.1 X.2.1 dX10_worthOfWay_82 rfl (lv_at hl 3 rfl) ?_
                refine ri_const X (v := 1) dX10_worthOfWay_83 ?_
                refine ri_sub X (v := (k - 1)) rfl dX10_worthOfWay_84 ?_
                refine aM_at X I (v := (a (k - 1))) (e_a (k - 1)) (by omega) dX10_worthOfWay_85 ?_
                refine ri_sub X (v := ((a k) - (a (k - 1)))) rfl dX10_worthOfWay_86 ?_
                refine ri_const X (v := 1) dX10_worthOfWay_87 ?_
                refine ri_sub X (v := (((a k) - (a (k - 1))) - 1)) rfl dX10_worthOfWay_88 ?_
                refine lv_istore (lv' := [(4, .int (iI (((a k) - (a (k - 1))) - 1))), (2, .int (iI ((wmv (opl (bgv (fun z_ => sa (12 * x + z_)) n_.toNat) kd b_) (ost kd r_ g_) a k.toNat) + (opl (bgv (fun z_ => sa (12 * x + z_)) n_.toNat) kd b_) (a k)))), (0, .ref (G.2.2 0)), (1, .int (iI x)), (3, .int (iI k))]) X.1 X.2.1 dX10_worthOfWay_89 hl (by decide) rfl (fun ls hl => ?_)
                refine lv_iload X.1 X.2.1 dX10_worthOfWay_91 (lv_at hl 0 rfl) ?_
                refine rz_ne (tgt := 108) X (by omega) dX10_worthOfWay_93 (by decide) (fun c16 => ?_) (fun c16 => ?_)
                · skip
                  refine lv_aload_n X.1 X.2.1 dX10_worthOfWay_108 rfl (lv_at hl 2 rfl) ?_
                  refine gM_model_kinds X I tb_699 dX10_worthOfWay_109 ?_
                  refine lv_iload_n X.1 X.2.1 dX10_worthOfWay_112 rfl (lv_at hl 3 rfl) ?_
                  refine aM_kinds X I (v := kd) e_kd (by omega) dX10_worthOfWay_113 ?_
                  refine ri_const X (v := 3) dX10_worthOfWay_114 ?_
                  refine rj_eq (tgt := 130) X (by omega) (by omega) dX10_worthOfWay_115 (by decide) (fun c17 => ?_) (fun c17 => ?_)
                  · skip
                    have hl : lv_has ls 5 [(4, .int (iI (((a k) - (a (k - 1))) - 1))), (2, .int (iI (((wmv (opl (bgv (fun z_ => sa (12 * x + z_)) n_.toNat) kd b_) (ost kd r_ g_) a k.toNat) + (opl (bgv (fun z_ => sa (12 * x + z_)) n_.toNat) kd b_) (a k)) + (if k = 0 then 0 else ost kd r_ g_ (a (k - 1)) (a k))))), (0, .ref (G.2.2 0)), (1, .int (iI x)), (3, .int (iI k))] := by
                      have e_ : ((wmv (opl (bgv (fun z_ => sa (12 * x + z_)) n_.toNat) kd b_) (ost kd r_ g_) a k.toNat) + (opl (bgv (fun z_ => sa (12 * x + z_)) n_.toNat) kd b_) (a k)) = (((wmv (opl (bgv (fun z_ => sa (12 * x + z_)) n_.toNat) kd b_) (ost kd r_ g_) a k.toNat) + (opl (bgv (fun z_ => sa (12 * x + z_)) n_.toNat) kd b_) (a k)) + (if k = 0 then 0 else ost kd r_ g_ (a (k - 1)) (a k))) := by first | (rw [if_pos (by omega)]; omega) | (rw [if_neg (by omega)]; unfold ost; rw [if_pos (by omega)]) | (rw [if_neg (by omega)]; unfold ost; rw [if_neg (by omega), if_pos (by omega)]; omega) | (rw [if_neg (by omega)]; unfold ost; rw [if_neg (by omega), if_neg (by omega), Int.neg_mul]; exact Int.sub_eq_add_neg)
                      rw [← e_]; exact hl
                    refine ri_iinc X (k := 4) (v := (k + 1)) (lv' := [(3, .int (iI (k + 1))), (4, .int (iI (((a k) - (a (k - 1))) - 1))), (2, .int (iI (((wmv (opl (bgv (fun z_ => sa (12 * x + z_)) n_.toNat) kd b_) (ost kd r_ g_) a k.toNat) + (opl (bgv (fun z_ => sa (12 * x + z_)) n_.toNat) kd b_) (a k)) + (if k = 0 then 0 else ost kd r_ g_ (a (k - 1)) (a k))))), (0, .ref (G.2.2 0)), (1, .int (iI x))]) rfl dX10_worthOfWay_130 hl rfl (by decide) rfl (fun ls hl => ?_)
                    refine lv_goto (tgt := 4) X.1 X.2.1 dX10_worthOfWay_133 (by decide) ?_
                    have hl : lv_has ls 5 [(3, .int (iI (k + 1))), (4, .int (iI (((a k) - (a (k - 1))) - 1))), (2, .int (iI (wmv (opl (bgv (fun z_ => sa (12 * x + z_)) n_.toNat) kd b_) (ost kd r_ g_) a (k + 1).toNat))), (0, .ref (G.2.2 0)), (1, .int (iI x))] := by
                      have e_ : (((wmv (opl (bgv (fun z_ => sa (12 * x + z_)) n_.toNat) kd b_) (ost kd r_ g_) a k.toNat) + (opl (bgv (fun z_ => sa (12 * x + z_)) n_.toNat) kd b_) (a k)) + (if k = 0 then 0 else ost kd r_ g_ (a (k - 1)) (a k))) = (wmv (opl (bgv (fun z_ => sa (12 * x + z_)) n_.toNat) kd b_) (ost kd r_ g_) a (k + 1).toNat) := (wmv_s (by omega)).symm
                      rw [← e_]; exact hl
                    exact ih_4 (k + 1) (by omega) (by omega) _ _ I ls (lv_sub hl [3, 4, 2, 0] rfl)
                  · skip
                    refine lv_iload_n X.1 X.2.1 dX10_worthOfWay_118 rfl (lv_at hl 1 rfl) ?_
                    refine lv_aload_n X.1 X.2.1 dX10_worthOfWay_119 rfl (lv_at hl 2 rfl) ?_
                    refine gM_model_worths X I tb_702 dX10_worthOfWay_120 ?_
                    refine ri_const X (v := 2) dX10_worthOfWay_123 ?_
                    refine aM_worths X I (v := g_) e_g_ (by omega) dX10_worthOfWay_124 ?_
                    refine lv_iload X.1 X.2.1 dX10_worthOfWay_125 (lv_at hl 0 rfl) ?_
                    refine ri_mul X (v := (g_ * (((a k) - (a (k - 1))) - 1))) rfl dX10_worthOfWay_127 ?_
                    refine ri_sub X (v := (((wmv (opl (bgv (fun z_ => sa (12 * x + z_)) n_.toNat) kd b_) (ost kd r_ g_) a k.toNat) + (opl (bgv (fun z_ => sa (12 * x + z_)) n_.toNat) kd b_) (a k)) - (g_ * (((a k) - (a (k - 1))) - 1)))) rfl dX10_worthOfWay_128 ?_
                    refine lv_istore_n (lv' := [(2, .int (iI (((wmv (opl (bgv (fun z_ => sa (12 * x + z_)) n_.toNat) kd b_) (ost kd r_ g_) a k.toNat) + (opl (bgv (fun z_ => sa (12 * x + z_)) n_.toNat) kd b_) (a k)) - (g_ * (((a k) - (a (k - 1))) - 1))))), (4, .int (iI (((a k) - (a (k - 1))) - 1))), (0, .ref (G.2.2 0)), (1, .int (iI x)), (3, .int (iI k))]) X.1 X.2.1 dX10_worthOfWay_129 rfl hl (by decide) rfl (fun ls hl => ?_)
                    have hl : lv_has ls 5 [(2, .int (iI (((wmv (opl (bgv (fun z_ => sa (12 * x + z_)) n_.toNat) kd b_) (ost kd r_ g_) a k.toNat) + (opl (bgv (fun z_ => sa (12 * x + z_)) n_.toNat) kd b_) (a k)) + (if k = 0 then 0 else ost kd r_ g_ (a (k - 1)) (a k))))), (4, .int (iI (((a k) - (a (k - 1))) - 1))), (0, .ref (G.2.2 0)), (1, .int (iI x)), (3, .int (iI k))] := by
                      have e_ : (((wmv (opl (bgv (fun z_ => sa (12 * x + z_)) n_.toNat) kd b_) (ost kd r_ g_) a k.toNat) + (opl (bgv (fun z_ => sa (12 * x + z_)) n_.toNat) kd b_) (a k)) - (g_ * (((a k) - (a (k - 1))) - 1))) = (((wmv (opl (bgv (fun z_ => sa (12 * x + z_)) n_.toNat) kd b_) (ost kd r_ g_) a k.toNat) + (opl (bgv (fun z_ => sa (12 * x + z_)) n_.toNat) kd b_) (a k)) + (if k = 0 then 0 else ost kd r_ g_ (a (k - 1)) (a k))) := by first | (rw [if_pos (by omega)]; omega) | (rw [if_neg (by omega)]; unfold ost; rw [if_pos (by omega)]) | (rw [if_neg (by omega)]; unfold ost; rw [if_neg (by omega), if_pos (by omega)]; omega) | (rw [if_neg (by omega)]; unfold ost; rw [if_neg (by omega), if_neg (by omega), Int.neg_mul]; exact Int.sub_eq_add_neg)
                      rw [← e_]; exact hl
                    refine ri_iinc X (k := 4) (v := (k + 1)) (lv' := [(3, .int (iI (k + 1))), (2, .int (iI (((wmv (opl (bgv (fun z_ => sa (12 * x + z_)) n_.toNat) kd b_) (ost kd r_ g_) a k.toNat) + (opl (bgv (fun z_ => sa (12 * x + z_)) n_.toNat) kd b_) (a k)) + (if k = 0 then 0 else ost kd r_ g_ (a (k - 1)) (a k))))), (4, .int (iI (((a k) - (a (k - 1))) - 1))), (0, .ref (G.2.2 0)), (1, .int (iI x))]) rfl dX10_worthOfWay_130 hl rfl (by decide) rfl (fun ls hl => ?_)
                    refine lv_goto (tgt := 4) X.1 X.2.1 dX10_worthOfWay_133 (by decide) ?_
                    have hl : lv_has ls 5 [(3, .int (iI (k + 1))), (2, .int (iI (wmv (opl (bgv (fun z_ => sa (12 * x + z_)) n_.toNat) kd b_) (ost kd r_ g_) a (k + 1).toNat))), (4, .int (iI (((a k) - (a (k - 1))) - 1))), (0, .ref (G.2.2 0)), (1, .int (iI x))] := by
                      have e_ : (((wmv (opl (bgv (fun z_ => sa (12 * x + z_)) n_.toNat) kd b_) (ost kd r_ g_) a k.toNat) + (opl (bgv (fun z_ => sa (12 * x + z_)) n_.toNat) kd b_) (a k)) + (if k = 0 then 0 else ost kd r_ g_ (a (k - 1)) (a k))) = (wmv (opl (bgv (fun z_ => sa (12 * x + z_)) n_.toNat) kd b_) (ost kd r_ g_) a (k + 1).toNat) := (wmv_s (by omega)).symm
                      rw [← e_]; exact hl
                    exact ih_4 (k + 1) (by omega) (by omega) _ _ I ls (lv_sub hl [3, 4, 1, 0] rfl)
                · skip
                  refine lv_iload_n X.1 X.2.1 dX10_worthOfWay_96 rfl (lv_at hl 1 rfl) ?_
                  refine lv_aload_n X.1 X.2.1 dX10_worthOfWay_97 rfl (lv_at hl 2 rfl) ?_
                  refine gM_model_worths X I tb_702 dX10_worthOfWay_98 ?_
                  refine ri_const X (v := 1) dX10_worthOfWay_101 ?_
                  refine aM_worths X I (v := r_) e_r_ (by omega) dX10_worthOfWay_102 ?_
                  refine ri_add X (v := (((wmv (opl (bgv (fun z_ => sa (12 * x + z_)) n_.toNat) kd b_) (ost kd r_ g_) a k.toNat) + (opl (bgv (fun z_ => sa (12 * x + z_)) n_.toNat) kd b_) (a k)) + r_)) rfl dX10_worthOfWay_103 ?_
                  refine lv_istore_n (lv' := [(2, .int (iI (((wmv (opl (bgv (fun z_ => sa (12 * x + z_)) n_.toNat) kd b_) (ost kd r_ g_) a k.toNat) + (opl (bgv (fun z_ => sa (12 * x + z_)) n_.toNat) kd b_) (a k)) + r_))), (4, .int (iI (((a k) - (a (k - 1))) - 1))), (0, .ref (G.2.2 0)), (1, .int (iI x)), (3, .int (iI k))]) X.1 X.2.1 dX10_worthOfWay_104 rfl hl (by decide) rfl (fun ls hl => ?_)
                  refine lv_goto (tgt := 130) X.1 X.2.1 dX10_worthOfWay_105 (by decide) ?_
                  have hl : lv_has ls 5 [(2, .int (iI (((wmv (opl (bgv (fun z_ => sa (12 * x + z_)) n_.toNat) kd b_) (ost kd r_ g_) a k.toNat) + (opl (bgv (fun z_ => sa (12 * x + z_)) n_.toNat) kd b_) (a k)) + (if k = 0 then 0 else ost kd r_ g_ (a (k - 1)) (a k))))), (4, .int (iI (((a k) - (a (k - 1))) - 1))), (0, .ref (G.2.2 0)), (1, .int (iI x)), (3, .int (iI k))] := by
                    have e_ : (((wmv (opl (bgv (fun z_ => sa (12 * x + z_)) n_.toNat) kd b_) (ost kd r_ g_) a k.toNat) + (opl (bgv (fun z_ => sa (12 * x + z_)) n_.toNat) kd b_) (a k)) + r_) = (((wmv (opl (bgv (fun z_ => sa (12 * x + z_)) n_.toNat) kd b_) (ost kd r_ g_) a k.toNat) + (opl (bgv (fun z_ => sa (12 * x + z_)) n_.toNat) kd b_) (a k)) + (if k = 0 then 0 else ost kd r_ g_ (a (k - 1)) (a k))) := by first | (rw [if_pos (by omega)]; omega) | (rw [if_neg (by omega)]; unfold ost; rw [if_pos (by omega)]) | (rw [if_neg (by omega)]; unfold ost; rw [if_neg (by omega), if_pos (by omega)]; omega) | (rw [if_neg (by omega)]; unfold ost; rw [if_neg (by omega), if_neg (by omega), Int.neg_mul]; exact Int.sub_eq_add_neg)
                    rw [← e_]; exact hl
                  refine ri_iinc X (k := 4) (v := (k + 1)) (lv' := [(3, .int (iI (k + 1))), (2, .int (iI (((wmv (opl (bgv (fun z_ => sa (12 * x + z_)) n_.toNat) kd b_) (ost kd r_ g_) a k.toNat) + (opl (bgv (fun z_ => sa (12 * x + z_)) n_.toNat) kd b_) (a k)) + (if k = 0 then 0 else ost kd r_ g_ (a (k - 1)) (a k))))), (4, .int (iI (((a k) - (a (k - 1))) - 1))), (0, .ref (G.2.2 0)), (1, .int (iI x))]) rfl dX10_worthOfWay_130 hl rfl (by decide) rfl (fun ls hl => ?_)
                  refine lv_goto (tgt := 4) X.1 X.2.1 dX10_worthOfWay_133 (by decide) ?_
                  have hl : lv_has ls 5 [(3, .int (iI (k + 1))), (2, .int (iI (wmv (opl (bgv (fun z_ => sa (12 * x + z_)) n_.toNat) kd b_) (ost kd r_ g_) a (k + 1).toNat))), (4, .int (iI (((a k) - (a (k - 1))) - 1))), (0, .ref (G.2.2 0)), (1, .int (iI x))] := by
                    have e_ : (((wmv (opl (bgv (fun z_ => sa (12 * x + z_)) n_.toNat) kd b_) (ost kd r_ g_) a k.toNat) + (opl (bgv (fun z_ => sa (12 * x + z_)) n_.toNat) kd b_) (a k)) + (if k = 0 then 0 else ost kd r_ g_ (a (k - 1)) (a k))) = (wmv (opl (bgv (fun z_ => sa (12 * x + z_)) n_.toNat) kd b_) (ost kd r_ g_) a (k + 1).toNat) := (wmv_s (by omega)).symm
                    rw [← e_]; exact hl
                  exact ih_4 (k + 1) (by omega) (by omega) _ _ I ls (lv_sub hl [3, 4, 1, 0] rfl)
        · rw [bI_f b5]
          refine rz_eq (tgt := 68) X (by omega) dX10_worthOfWay_26 (by decide) (fun _ => ?_) (fun c18 => absurd c18 (fun q => q (by decide)))
          have hl : lv_has ls 5 [(2, .int (iI ((wmv (opl (bgv (fun z_ => sa (12 * x + z_)) n_.toNat) kd b_) (ost kd r_ g_) a k.toNat) + (opl (bgv (fun z_ => sa (12 * x + z_)) n_.toNat) kd b_) (a k)))), (0, .ref (G.2.2 0)), (1, .int (iI x)), (3, .int (iI k))] := by
            have e_ : ((wmv (opl (bgv (fun z_ => sa (12 * x + z_)) n_.toNat) kd b_) (ost kd r_ g_) a k.toNat) + 50) = ((wmv (opl (bgv (fun z_ => sa (12 * x + z_)) n_.toNat) kd b_) (ost kd r_ g_) a k.toNat) + (opl (bgv (fun z_ => sa (12 * x + z_)) n_.toNat) kd b_) (a k)) := by first | rw [opl_n ⟨by omega, by omega⟩ (by assumption)] | (rw [opl_2 ⟨by omega, by omega⟩ (by assumption) (by omega)]; omega) | (rw [opl_1 ⟨by omega, by omega⟩ (by assumption) (by omega)]; omega)
            rw [← e_]; exact hl
          refine lv_iload_n X.1 X.2.1 dX10_worthOfWay_68 rfl (lv_at hl 3 rfl) ?_
          refine rz_le (tgt := 130) X (by omega) dX10_worthOfWay_69 (by decide) (fun c19 => ?_) (fun c19 => ?_)
          · skip
            have hl : lv_has ls 5 [(2, .int (iI (((wmv (opl (bgv (fun z_ => sa (12 * x + z_)) n_.toNat) kd b_) (ost kd r_ g_) a k.toNat) + (opl (bgv (fun z_ => sa (12 * x + z_)) n_.toNat) kd b_) (a k)) + (if k = 0 then 0 else ost kd r_ g_ (a (k - 1)) (a k))))), (0, .ref (G.2.2 0)), (1, .int (iI x)), (3, .int (iI k))] := by
              have e_ : ((wmv (opl (bgv (fun z_ => sa (12 * x + z_)) n_.toNat) kd b_) (ost kd r_ g_) a k.toNat) + (opl (bgv (fun z_ => sa (12 * x + z_)) n_.toNat) kd b_) (a k)) = (((wmv (opl (bgv (fun z_ => sa (12 * x + z_)) n_.toNat) kd b_) (ost kd r_ g_) a k.toNat) + (opl (bgv (fun z_ => sa (12 * x + z_)) n_.toNat) kd b_) (a k)) + (if k = 0 then 0 else ost kd r_ g_ (a (k - 1)) (a k))) := by first | (rw [if_pos (by omega)]; omega) | (rw [if_neg (by omega)]; unfold ost; rw [if_pos (by omega)]) | (rw [if_neg (by omega)]; unfold ost; rw [if_neg (by omega), if_pos (by omega)]; omega) | (rw [if_neg (by omega)]; unfold ost; rw [if_neg (by omega), if_neg (by omega), Int.neg_mul]; exact Int.sub_eq_add_neg)
              rw [← e_]; exact hl
            refine ri_iinc X (k := 3) (v := (k + 1)) (lv' := [(3, .int (iI (k + 1))), (2, .int (iI (((wmv (opl (bgv (fun z_ => sa (12 * x + z_)) n_.toNat) kd b_) (ost kd r_ g_) a k.toNat) + (opl (bgv (fun z_ => sa (12 * x + z_)) n_.toNat) kd b_) (a k)) + (if k = 0 then 0 else ost kd r_ g_ (a (k - 1)) (a k))))), (0, .ref (G.2.2 0)), (1, .int (iI x))]) rfl dX10_worthOfWay_130 hl rfl (by decide) rfl (fun ls hl => ?_)
            refine lv_goto (tgt := 4) X.1 X.2.1 dX10_worthOfWay_133 (by decide) ?_
            have hl : lv_has ls 5 [(3, .int (iI (k + 1))), (2, .int (iI (wmv (opl (bgv (fun z_ => sa (12 * x + z_)) n_.toNat) kd b_) (ost kd r_ g_) a (k + 1).toNat))), (0, .ref (G.2.2 0)), (1, .int (iI x))] := by
              have e_ : (((wmv (opl (bgv (fun z_ => sa (12 * x + z_)) n_.toNat) kd b_) (ost kd r_ g_) a k.toNat) + (opl (bgv (fun z_ => sa (12 * x + z_)) n_.toNat) kd b_) (a k)) + (if k = 0 then 0 else ost kd r_ g_ (a (k - 1)) (a k))) = (wmv (opl (bgv (fun z_ => sa (12 * x + z_)) n_.toNat) kd b_) (ost kd r_ g_) a (k + 1).toNat) := (wmv_s (by omega)).symm
              rw [← e_]; exact hl
            exact ih_4 (k + 1) (by omega) (by omega) _ _ I ls (lv_sub hl [2, 3, 1, 0] rfl)
          · skip
            have hak1 := ha (k - 1) (by omega) (by omega)
            refine lv_aload_n X.1 X.2.1 dX10_worthOfWay_72 rfl (lv_at hl 1 rfl) ?_
            refine gM_model_at X I tb_727 dX10_worthOfWay_73 ?_
            refine lv_iload_n X.1 X.2.1 dX10_worthOfWay_76 rfl (lv_at hl 3 rfl) ?_
            refine aM_at X I (v := (a k)) (e_a k) (by omega) dX10_worthOfWay_77 ?_
            refine lv_aload_n X.1 X.2.1 dX10_worthOfWay_78 rfl (lv_at hl 1 rfl) ?_
            refine gM_model_at X I tb_727 dX10_worthOfWay_79 ?_
            refine lv_iload_n X.1 X.2.1 dX10_worthOfWay_82 rfl (lv_at hl 3 rfl) ?_
            refine ri_const X (v := 1) dX10_worthOfWay_83 ?_
            refine ri_sub X (v := (k - 1)) rfl dX10_worthOfWay_84 ?_
            refine aM_at X I (v := (a (k - 1))) (e_a (k - 1)) (by omega) dX10_worthOfWay_85 ?_
            refine ri_sub X (v := ((a k) - (a (k - 1)))) rfl dX10_worthOfWay_86 ?_
            refine ri_const X (v := 1) dX10_worthOfWay_87 ?_
            refine ri_sub X (v := (((a k) - (a (k - 1))) - 1)) rfl dX10_worthOfWay_88 ?_
            refine lv_istore (lv' := [(4, .int (iI (((a k) - (a (k - 1))) - 1))), (2, .int (iI ((wmv (opl (bgv (fun z_ => sa (12 * x + z_)) n_.toNat) kd b_) (ost kd r_ g_) a k.toNat) + (opl (bgv (fun z_ => sa (12 * x + z_)) n_.toNat) kd b_) (a k)))), (0, .ref (G.2.2 0)), (1, .int (iI x)), (3, .int (iI k))]) X.1 X.2.1 dX10_worthOfWay_89 hl (by decide) rfl (fun ls hl => ?_)
            refine lv_iload X.1 X.2.1 dX10_worthOfWay_91 (lv_at hl 0 rfl) ?_
            refine rz_ne (tgt := 108) X (by omega) dX10_worthOfWay_93 (by decide) (fun c20 => ?_) (fun c20 => ?_)
            · skip
              refine lv_aload_n X.1 X.2.1 dX10_worthOfWay_108 rfl (lv_at hl 2 rfl) ?_
              refine gM_model_kinds X I tb_699 dX10_worthOfWay_109 ?_
              refine lv_iload_n X.1 X.2.1 dX10_worthOfWay_112 rfl (lv_at hl 3 rfl) ?_
              refine aM_kinds X I (v := kd) e_kd (by omega) dX10_worthOfWay_113 ?_
              refine ri_const X (v := 3) dX10_worthOfWay_114 ?_
              refine rj_eq (tgt := 130) X (by omega) (by omega) dX10_worthOfWay_115 (by decide) (fun c21 => ?_) (fun c21 => ?_)
              · skip
                have hl : lv_has ls 5 [(4, .int (iI (((a k) - (a (k - 1))) - 1))), (2, .int (iI (((wmv (opl (bgv (fun z_ => sa (12 * x + z_)) n_.toNat) kd b_) (ost kd r_ g_) a k.toNat) + (opl (bgv (fun z_ => sa (12 * x + z_)) n_.toNat) kd b_) (a k)) + (if k = 0 then 0 else ost kd r_ g_ (a (k - 1)) (a k))))), (0, .ref (G.2.2 0)), (1, .int (iI x)), (3, .int (iI k))] := by
                  have e_ : ((wmv (opl (bgv (fun z_ => sa (12 * x + z_)) n_.toNat) kd b_) (ost kd r_ g_) a k.toNat) + (opl (bgv (fun z_ => sa (12 * x + z_)) n_.toNat) kd b_) (a k)) = (((wmv (opl (bgv (fun z_ => sa (12 * x + z_)) n_.toNat) kd b_) (ost kd r_ g_) a k.toNat) + (opl (bgv (fun z_ => sa (12 * x + z_)) n_.toNat) kd b_) (a k)) + (if k = 0 then 0 else ost kd r_ g_ (a (k - 1)) (a k))) := by first | (rw [if_pos (by omega)]; omega) | (rw [if_neg (by omega)]; unfold ost; rw [if_pos (by omega)]) | (rw [if_neg (by omega)]; unfold ost; rw [if_neg (by omega), if_pos (by omega)]; omega) | (rw [if_neg (by omega)]; unfold ost; rw [if_neg (by omega), if_neg (by omega), Int.neg_mul]; exact Int.sub_eq_add_neg)
                  rw [← e_]; exact hl
                refine ri_iinc X (k := 4) (v := (k + 1)) (lv' := [(3, .int (iI (k + 1))), (4, .int (iI (((a k) - (a (k - 1))) - 1))), (2, .int (iI (((wmv (opl (bgv (fun z_ => sa (12 * x + z_)) n_.toNat) kd b_) (ost kd r_ g_) a k.toNat) + (opl (bgv (fun z_ => sa (12 * x + z_)) n_.toNat) kd b_) (a k)) + (if k = 0 then 0 else ost kd r_ g_ (a (k - 1)) (a k))))), (0, .ref (G.2.2 0)), (1, .int (iI x))]) rfl dX10_worthOfWay_130 hl rfl (by decide) rfl (fun ls hl => ?_)
                refine lv_goto (tgt := 4) X.1 X.2.1 dX10_worthOfWay_133 (by decide) ?_
                have hl : lv_has ls 5 [(3, .int (iI (k + 1))), (4, .int (iI (((a k) - (a (k - 1))) - 1))), (2, .int (iI (wmv (opl (bgv (fun z_ => sa (12 * x + z_)) n_.toNat) kd b_) (ost kd r_ g_) a (k + 1).toNat))), (0, .ref (G.2.2 0)), (1, .int (iI x))] := by
                  have e_ : (((wmv (opl (bgv (fun z_ => sa (12 * x + z_)) n_.toNat) kd b_) (ost kd r_ g_) a k.toNat) + (opl (bgv (fun z_ => sa (12 * x + z_)) n_.toNat) kd b_) (a k)) + (if k = 0 then 0 else ost kd r_ g_ (a (k - 1)) (a k))) = (wmv (opl (bgv (fun z_ => sa (12 * x + z_)) n_.toNat) kd b_) (ost kd r_ g_) a (k + 1).toNat) := (wmv_s (by omega)).symm
                  rw [← e_]; exact hl
                exact ih_4 (k + 1) (by omega) (by omega) _ _ I ls (lv_sub hl [3, 4, 2, 0] rfl)
              · skip
                refine lv_iload_n X.1 X.2.1 dX10_worthOfWay_118 rfl (lv_at hl 1 rfl) ?_
                refine lv_aload_n X.1 X.2.1 dX10_worthOfWay_119 rfl (lv_at hl 2 rfl) ?_
                refine gM_model_worths X I tb_702 dX10_worthOfWay_120 ?_
                refine ri_const X (v := 2) dX10_worthOfWay_123 ?_
                refine aM_worths X I (v := g_) e_g_ (by omega) dX10_worthOfWay_124 ?_
                refine lv_iload X.1 X.2.1 dX10_worthOfWay_125 (lv_at hl 0 rfl) ?_
                refine ri_mul X (v := (g_ * (((a k) - (a (k - 1))) - 1))) rfl dX10_worthOfWay_127 ?_
                refine ri_sub X (v := (((wmv (opl (bgv (fun z_ => sa (12 * x + z_)) n_.toNat) kd b_) (ost kd r_ g_) a k.toNat) + (opl (bgv (fun z_ => sa (12 * x + z_)) n_.toNat) kd b_) (a k)) - (g_ * (((a k) - (a (k - 1))) - 1)))) rfl dX10_worthOfWay_128 ?_
                refine lv_istore_n (lv' := [(2, .int (iI (((wmv (opl (bgv (fun z_ => sa (12 * x + z_)) n_.toNat) kd b_) (ost kd r_ g_) a k.toNat) + (opl (bgv (fun z_ => sa (12 * x + z_)) n_.toNat) kd b_) (a k)) - (g_ * (((a k) - (a (k - 1))) - 1))))), (4, .int (iI (((a k) - (a (k - 1))) - 1))), (0, .ref (G.2.2 0)), (1, .int (iI x)), (3, .int (iI k))]) X.1 X.2.1 dX10_worthOfWay_129 rfl hl (by decide) rfl (fun ls hl => ?_)
                have hl : lv_has ls 5 [(2, .int (iI (((wmv (opl (bgv (fun z_ => sa (12 * x + z_)) n_.toNat) kd b_) (ost kd r_ g_) a k.toNat) + (opl (bgv (fun z_ => sa (12 * x + z_)) n_.toNat) kd b_) (a k)) + (if k = 0 then 0 else ost kd r_ g_ (a (k - 1)) (a k))))), (4, .int (iI (((a k) - (a (k - 1))) - 1))), (0, .ref (G.2.2 0)), (1, .int (iI x)), (3, .int (iI k))] := by
                  have e_ : (((wmv (opl (bgv (fun z_ => sa (12 * x + z_)) n_.toNat) kd b_) (ost kd r_ g_) a k.toNat) + (opl (bgv (fun z_ => sa (12 * x + z_)) n_.toNat) kd b_) (a k)) - (g_ * (((a k) - (a (k - 1))) - 1))) = (((wmv (opl (bgv (fun z_ => sa (12 * x + z_)) n_.toNat) kd b_) (ost kd r_ g_) a k.toNat) + (opl (bgv (fun z_ => sa (12 * x + z_)) n_.toNat) kd b_) (a k)) + (if k = 0 then 0 else ost kd r_ g_ (a (k - 1)) (a k))) := by first | (rw [if_pos (by omega)]; omega) | (rw [if_neg (by omega)]; unfold ost; rw [if_pos (by omega)]) | (rw [if_neg (by omega)]; unfold ost; rw [if_neg (by omega), if_pos (by omega)]; omega) | (rw [if_neg (by omega)]; unfold ost; rw [if_neg (by omega), if_neg (by omega), Int.neg_mul]; exact Int.sub_eq_add_neg)
                  rw [← e_]; exact hl
                refine ri_iinc X (k := 4) (v := (k + 1)) (lv' := [(3, .int (iI (k + 1))), (2, .int (iI (((wmv (opl (bgv (fun z_ => sa (12 * x + z_)) n_.toNat) kd b_) (ost kd r_ g_) a k.toNat) + (opl (bgv (fun z_ => sa (12 * x + z_)) n_.toNat) kd b_) (a k)) + (if k = 0 then 0 else ost kd r_ g_ (a (k - 1)) (a k))))), (4, .int (iI (((a k) - (a (k - 1))) - 1))), (0, .ref (G.2.2 0)), (1, .int (iI x))]) rfl dX10_worthOfWay_130 hl rfl (by decide) rfl (fun ls hl => ?_)
                refine lv_goto (tgt := 4) X.1 X.2.1 dX10_worthOfWay_133 (by decide) ?_
                have hl : lv_has ls 5 [(3, .int (iI (k + 1))), (2, .int (iI (wmv (opl (bgv (fun z_ => sa (12 * x + z_)) n_.toNat) kd b_) (ost kd r_ g_) a (k + 1).toNat))), (4, .int (iI (((a k) - (a (k - 1))) - 1))), (0, .ref (G.2.2 0)), (1, .int (iI x))] := by
                  have e_ : (((wmv (opl (bgv (fun z_ => sa (12 * x + z_)) n_.toNat) kd b_) (ost kd r_ g_) a k.toNat) + (opl (bgv (fun z_ => sa (12 * x + z_)) n_.toNat) kd b_) (a k)) + (if k = 0 then 0 else ost kd r_ g_ (a (k - 1)) (a k))) = (wmv (opl (bgv (fun z_ => sa (12 * x + z_)) n_.toNat) kd b_) (ost kd r_ g_) a (k + 1).toNat) := (wmv_s (by omega)).symm
                  rw [← e_]; exact hl
                exact ih_4 (k + 1) (by omega) (by omega) _ _ I ls (lv_sub hl [3, 4, 1, 0] rfl)
            · skip
              refine lv_iload_n X.1 X.2.1 dX10_worthOfWay_96 rfl (lv_at hl 1 rfl) ?_
              refine lv_aload_n X.1 X.2.1 dX10_worthOfWay_97 rfl (lv_at hl 2 rfl) ?_
              refine gM_model_worths X I tb_702 dX10_worthOfWay_98 ?_
              refine ri_const X (v := 1) dX10_worthOfWay_101 ?_
              refine aM_worths X I (v := r_) e_r_ (by omega) dX10_worthOfWay_102 ?_
              refine ri_add X (v := (((wmv (opl (bgv (fun z_ => sa (12 * x + z_)) n_.toNat) kd b_) (ost kd r_ g_) a k.toNat) + (opl (bgv (fun z_ => sa (12 * x + z_)) n_.toNat) kd b_) (a k)) + r_)) rfl dX10_worthOfWay_103 ?_
              refine lv_istore_n (lv' := [(2, .int (iI (((wmv (opl (bgv (fun z_ => sa (12 * x + z_)) n_.toNat) kd b_) (ost kd r_ g_) a k.toNat) + (opl (bgv (fun z_ => sa (12 * x + z_)) n_.toNat) kd b_) (a k)) + r_))), (4, .int (iI (((a k) - (a (k - 1))) - 1))), (0, .ref (G.2.2 0)), (1, .int (iI x)), (3, .int (iI k))]) X.1 X.2.1 dX10_worthOfWay_104 rfl hl (by decide) rfl (fun ls hl => ?_)
              refine lv_goto (tgt := 130) X.1 X.2.1 dX10_worthOfWay_105 (by decide) ?_
              have hl : lv_has ls 5 [(2, .int (iI (((wmv (opl (bgv (fun z_ => sa (12 * x + z_)) n_.toNat) kd b_) (ost kd r_ g_) a k.toNat) + (opl (bgv (fun z_ => sa (12 * x + z_)) n_.toNat) kd b_) (a k)) + (if k = 0 then 0 else ost kd r_ g_ (a (k - 1)) (a k))))), (4, .int (iI (((a k) - (a (k - 1))) - 1))), (0, .ref (G.2.2 0)), (1, .int (iI x)), (3, .int (iI k))] := by
                have e_ : (((wmv (opl (bgv (fun z_ => sa (12 * x + z_)) n_.toNat) kd b_) (ost kd r_ g_) a k.toNat) + (opl (bgv (fun z_ => sa (12 * x + z_)) n_.toNat) kd b_) (a k)) + r_) = (((wmv (opl (bgv (fun z_ => sa (12 * x + z_)) n_.toNat) kd b_) (ost kd r_ g_) a k.toNat) + (opl (bgv (fun z_ => sa (12 * x + z_)) n_.toNat) kd b_) (a k)) + (if k = 0 then 0 else ost kd r_ g_ (a (k - 1)) (a k))) := by first | (rw [if_pos (by omega)]; omega) | (rw [if_neg (by omega)]; unfold ost; rw [if_pos (by omega)]) | (rw [if_neg (by omega)]; unfold ost; rw [if_neg (by omega), if_pos (by omega)]; omega) | (rw [if_neg (by omega)]; unfold ost; rw [if_neg (by omega), if_neg (by omega), Int.neg_mul]; exact Int.sub_eq_add_neg)
                rw [← e_]; exact hl
              refine ri_iinc X (k := 4) (v := (k + 1)) (lv' := [(3, .int (iI (k + 1))), (2, .int (iI (((wmv (opl (bgv (fun z_ => sa (12 * x + z_)) n_.toNat) kd b_) (ost kd r_ g_) a k.toNat) + (opl (bgv (fun z_ => sa (12 * x + z_)) n_.toNat) kd b_) (a k)) + (if k = 0 then 0 else ost kd r_ g_ (a (k - 1)) (a k))))), (4, .int (iI (((a k) - (a (k - 1))) - 1))), (0, .ref (G.2.2 0)), (1, .int (iI x))]) rfl dX10_worthOfWay_130 hl rfl (by decide) rfl (fun ls hl => ?_)
              refine lv_goto (tgt := 4) X.1 X.2.1 dX10_worthOfWay_133 (by decide) ?_
              have hl : lv_has ls 5 [(3, .int (iI (k + 1))), (2, .int (iI (wmv (opl (bgv (fun z_ => sa (12 * x + z_)) n_.toNat) kd b_) (ost kd r_ g_) a (k + 1).toNat))), (4, .int (iI (((a k) - (a (k - 1))) - 1))), (0, .ref (G.2.2 0)), (1, .int (iI x))] := by
                have e_ : (((wmv (opl (bgv (fun z_ => sa (12 * x + z_)) n_.toNat) kd b_) (ost kd r_ g_) a k.toNat) + (opl (bgv (fun z_ => sa (12 * x + z_)) n_.toNat) kd b_) (a k)) + (if k = 0 then 0 else ost kd r_ g_ (a (k - 1)) (a k))) = (wmv (opl (bgv (fun z_ => sa (12 * x + z_)) n_.toNat) kd b_) (ost kd r_ g_) a (k + 1).toNat) := (wmv_s (by omega)).symm
                rw [← e_]; exact hl
              exact ih_4 (k + 1) (by omega) (by omega) _ _ I ls (lv_sub hl [3, 4, 1, 0] rfl)
  have hl : lv_has ls 5 [(3, .int (iI 0)), (2, .int (iI (wmv (opl (bgv (fun z_ => sa (12 * x + z_)) n_.toNat) kd b_) (ost kd r_ g_) a (0 : Int).toNat))), (0, .ref (G.2.2 0)), (1, .int (iI x))] := by
    have e_ : 0 = (wmv (opl (bgv (fun z_ => sa (12 * x + z_)) n_.toNat) kd b_) (ost kd r_ g_) a (0 : Int).toNat) := rfl
    rw [← e_]; exact hl
  exact lp_4 (7) 0 (by omega) (by omega) _ _ I ls (lv_sub hl [2, 3, 1, 0] rfl)

theorem ok_X10_goesOn : yX10_goesOn.cls ≠ "java/lang/invoke/MethodHandle" ∧ yX10_goesOn.cls ≠ "java/lang/invoke/VarHandle" ∧ (parseMethodDescriptor yX10_goesOn.desc).map (fun d => d.parameters.length) = some 1 := ⟨by decide +kernel, by decide +kernel, by decide +kernel⟩
abbrev po_X10_goesOn (S : St)  (x : Int) (m_ : Int) (a : Int → Int) : Int → St → Prop := fun r S1 => (r = 0 ∧ S1 = S ∧ ∀ j : Int, 0 ≤ j → j < m_ → a j = x - m_ + j) ∨ (r = 1 ∧ S1.2 = S.2 ∧ ∃ k : Int, (0 ≤ k ∧ k < m_) ∧ ¬ a k = x - m_ + k ∧ (∀ j : Int, k < j → j < m_ → a j = x - m_ + j) ∧ (∀ j : Int, 0 ≤ j → j < m_ → S1.1 21 j = if j < k then a j else a k + 1 + (j - k)) ∧ ∀ (c_ : Nat) (i : Int), ¬ c_ = 21 → S1.1 c_ i = S.1 c_ i)
abbrev rm_X10_goesOn : Room := ({ frames := 0, cells := 0, slots := 0, locals := 0 } : Room)
set_option maxRecDepth 100000 in
set_option maxHeartbeats 4000000 in
theorem k_X10_goesOn (l : Launch) (G : Ge) (S : St)  (x : Int) (m_ : Int) (a : Int → Int) (e_m_ : S.1 62 0 = m_) (e_a : ∀ i : Int, S.1 21 i = a i) (hx : 0 ≤ x ∧ x ≤ 12) (hm_ : 0 ≤ m_ ∧ m_ ≤ 6) (ha : ∀ j : Int, 0 ≤ j → j < m_ → 0 ≤ a j ∧ a j < 12) : Ki (KM G) l yX10_goesOn cX10_goesOn 4 .boolean rm_X10_goesOn [.ref (G.2.2 0), .int (iI x)] S (po_X10_goesOn S x m_ a) := by
  refine K_start (own := "NameSeekerModel") (by decide +kernel) rfl (Nat.le_of_ble_eq_true rfl) ?_
  intro p e s m args below meth c X hr hlk I ls hl
  have hl : lv_has ls 4 [(0, .ref (G.2.2 0)), (1, .int (iI x))] := hl
  refine lv_aload_n X.1 X.2.1 dX10_goesOn_0 rfl (lv_at hl 0 rfl) ?_
  refine gM_model_triedSize X I (v := m_) e_m_ tb_725 dX10_goesOn_1 ?_
  refine ri_const X (v := 1) dX10_goesOn_4 ?_
  refine ri_sub X (v := (m_ - 1)) rfl dX10_goesOn_5 ?_
  refine lv_istore_n (lv' := [(2, .int (iI (m_ - 1))), (0, .ref (G.2.2 0)), (1, .int (iI x))]) X.1 X.2.1 dX10_goesOn_6 rfl hl (by decide) rfl (fun ls hl => ?_)
  have lp_7 : ∀ (fu_ : Nat) (k : Int), (k + 1).toNat < fu_ → ∀ (hk : -1 ≤ k ∧ k < m_) (hin : ∀ j : Int, k < j → j < m_ → a j = x - m_ + j) (H : Heap) (locs : List Loc), In (KM G) s s.heap H locs S → ∀ ls : Array Slot, lv_has ls 4 [(0, .ref (G.2.2 0)), (1, .int (iI x)), (2, .int (iI k))] → W p l e rm_X10_goesOn s m args below meth c H locs 0 0 (MQ below (QI (KM G) (po_X10_goesOn S x m_ a)) args s 0 0 (KM G).2.2.2) (F0 m 7 ls []) := by
    intro fu_
    induction fu_ with
    | zero => intro k hm; exact absurd hm (by omega)
    | succ fu_ ih_7 =>
      intro k hm_7 hk hin H locs I ls hl
      refine lv_iload_n X.1 X.2.1 dX10_goesOn_7 rfl (lv_at hl 2 rfl) ?_
      refine rz_lt (tgt := 34) X (by omega) dX10_goesOn_8 (by decide) (fun c1 => ?_) (fun c1 => ?_)
      · skip
        refine lv_iload_n X.1 X.2.1 dX10_goesOn_34 rfl (lv_at hl 2 rfl) ?_
        refine rz_ge (tgt := 40) X (by omega) dX10_goesOn_35 (by decide) (fun c2 => ?_) (fun c2 => ?_)
        · skip
          have hak := ha k (by omega) (by omega)
          refine lv_aload_n X.1 X.2.1 dX10_goesOn_40 rfl (lv_at hl 0 rfl) ?_
          refine gM_model_at X I tb_727 dX10_goesOn_41 ?_
          refine lv_iload_n X.1 X.2.1 dX10_goesOn_44 rfl (lv_at hl 2 rfl) ?_
          refine lv_dup2_11 X.1 X.2.1 dX10_goesOn_45 rfl rfl ?_
          refine aM_at X I (v := (a k)) (e_a k) (by omega) dX10_goesOn_46 ?_
          refine ri_const X (v := 1) dX10_goesOn_47 ?_
          refine ri_add X (v := ((a k) + 1)) rfl dX10_goesOn_48 ?_
          refine qM_at X I (by omega) dX10_goesOn_49 (fun H locs I => ?_)
          have I : In (KM G) s s.heap H locs ((ua S.1 21 k ((a k) + 1)), S.2) := I
          refine lv_iload_n X.1 X.2.1 dX10_goesOn_50 rfl (lv_at hl 2 rfl) ?_
          refine ri_const X (v := 1) dX10_goesOn_51 ?_
          refine ri_add X (v := (k + 1)) rfl dX10_goesOn_52 ?_
          refine lv_istore_n (lv' := [(3, .int (iI (k + 1))), (0, .ref (G.2.2 0)), (1, .int (iI x)), (2, .int (iI k))]) X.1 X.2.1 dX10_goesOn_53 rfl hl (by decide) rfl (fun ls hl => ?_)
          have lp_54 : ∀ (fu_ : Nat) (j : Int) (U : Nat → Int → Int), (6 - j).toNat < fu_ → ∀ (hj : k + 1 ≤ j ∧ j ≤ m_) (hU : ∀ i : Int, 0 ≤ i → i < j → U 21 i = if i < k then a i else a k + 1 + (i - k)) (hUf : ∀ (c_ : Nat) (i : Int), ¬ c_ = 21 → U c_ i = S.1 c_ i) (H : Heap) (locs : List Loc), In (KM G) s s.heap H locs (U, S.2) → ∀ ls : Array Slot, lv_has ls 4 [(0, .ref (G.2.2 0)), (1, .int (iI x)), (2, .int (iI k)), (3, .int (iI j))] → W p l e rm_X10_goesOn s m args below meth c H locs 0 0 (MQ below (QI (KM G) (po_X10_goesOn S x m_ a)) args s 0 0 (KM G).2.2.2) (F0 m 54 ls []) := by
            intro fu_
            induction fu_ with
            | zero => intro j U hm; exact absurd hm (by omega)
            | succ fu_ ih_54 =>
              intro j U hm_54 hj hU hUf H locs I ls hl
              refine lv_iload_n X.1 X.2.1 dX10_goesOn_54 rfl (lv_at hl 3 rfl) ?_
              refine lv_aload_n X.1 X.2.1 dX10_goesOn_55 rfl (lv_at hl 0 rfl) ?_
              refine gM_model_triedSize X I (v := m_) ((hUf 62 0 (by omega)).trans e_m_) tb_725 dX10_goesOn_56 ?_
              refine rj_ge (tgt := 84) X (by omega) (by omega) dX10_goesOn_59 (by decide) (fun c3 => ?_) (fun c3 => ?_)
              · skip
                refine ri_const X (v := 1) dX10_goesOn_84 ?_
                exact rt_i X hr hlk I (by rfl) (by exact Or.inr ⟨rfl, rfl, k, ⟨by omega, by omega⟩, by omega, hin, fun j h1 h2 => hU j h1 (by omega), hUf⟩) dX10_goesOn_85
              · skip
                have hj1 := hU (j - 1) (by omega) (by omega)
                refine lv_aload_n X.1 X.2.1 dX10_goesOn_62 rfl (lv_at hl 0 rfl) ?_
                refine gM_model_at X I tb_727 dX10_goesOn_63 ?_
                refine lv_iload_n X.1 X.2.1 dX10_goesOn_66 rfl (lv_at hl 3 rfl) ?_
                refine lv_aload_n X.1 X.2.1 dX10_goesOn_67 rfl (lv_at hl 0 rfl) ?_
                refine gM_model_at X I tb_727 dX10_goesOn_68 ?_
                refine lv_iload_n X.1 X.2.1 dX10_goesOn_71 rfl (lv_at hl 3 rfl) ?_
                refine ri_const X (v := 1) dX10_goesOn_72 ?_
                refine ri_sub X (v := (j - 1)) rfl dX10_goesOn_73 ?_
                refine aM_at X I (v := (U 21 (j - 1))) rfl (by omega) dX10_goesOn_74 ?_
                refine ri_const X (v := 1) dX10_goesOn_75 ?_
                refine ri_add X (v := ((U 21 (j - 1)) + 1)) rfl dX10_goesOn_76 ?_
                refine qM_at X I (by omega) dX10_goesOn_77 (fun H locs I => ?_)
                have I : In (KM G) s s.heap H locs ((ua U 21 j ((U 21 (j - 1)) + 1)), S.2) := I
                refine ri_iinc X (k := 3) (v := (j + 1)) (lv' := [(3, .int (iI (j + 1))), (0, .ref (G.2.2 0)), (1, .int (iI x)), (2, .int (iI k))]) rfl dX10_goesOn_78 hl rfl (by decide) rfl (fun ls hl => ?_)
                refine lv_goto (tgt := 54) X.1 X.2.1 dX10_goesOn_81 (by decide) ?_
                exact ih_54 (j + 1) (ua U 21 j ((U 21 (j - 1)) + 1)) (by omega) (by omega) (fun i h1 h2 => by
      rw [ua_at]
      by_cases q : i = j
      · rw [if_pos ⟨rfl, q⟩, if_neg (by omega), hj1, if_neg (by omega), q]; omega
      · rw [if_neg (by omega)]; exact hU i h1 (by omega)) (fun c_ i h => by rw [ua_nc h]; exact hUf c_ i h) _ _ I ls (lv_sub hl [1, 2, 3, 0] rfl)
          exact lp_54 (7) (k + 1) (ua S.1 21 k ((a k) + 1)) (by omega) (by omega) (fun i h1 h2 => by
      rw [ua_at]
      by_cases q : i = k
      · rw [if_pos ⟨rfl, q⟩, if_neg (by omega), q]; omega
      · rw [if_neg (by omega), if_pos (by omega)]; exact e_a i) (fun c_ i h => ua_nc h) _ _ I ls (lv_sub hl [1, 2, 3, 0] rfl)
        · skip
          refine ri_const X (v := 0) dX10_goesOn_38 ?_
          exact rt_i X hr hlk I (by rfl) (by exact Or.inl ⟨rfl, rfl, fun j h1 h2 => hin j (by omega) h2⟩) dX10_goesOn_39
      · skip
        have hak := ha k (by omega) (by omega)
        refine lv_aload_n X.1 X.2.1 dX10_goesOn_11 rfl (lv_at hl 0 rfl) ?_
        refine gM_model_at X I tb_727 dX10_goesOn_12 ?_
        refine lv_iload_n X.1 X.2.1 dX10_goesOn_15 rfl (lv_at hl 2 rfl) ?_
        refine aM_at X I (v := (a k)) (e_a k) (by omega) dX10_goesOn_16 ?_
        refine lv_iload_n X.1 X.2.1 dX10_goesOn_17 rfl (lv_at hl 1 rfl) ?_
        refine lv_aload_n X.1 X.2.1 dX10_goesOn_18 rfl (lv_at hl 0 rfl) ?_
        refine gM_model_triedSize X I (v := m_) e_m_ tb_725 dX10_goesOn_19 ?_
        refine ri_sub X (v := (x - m_)) rfl dX10_goesOn_22 ?_
        refine lv_iload_n X.1 X.2.1 dX10_goesOn_23 rfl (lv_at hl 2 rfl) ?_
        refine ri_add X (v := ((x - m_) + k)) rfl dX10_goesOn_24 ?_
        refine rj_ne (tgt := 34) X (by omega) (by omega) dX10_goesOn_25 (by decide) (fun c4 => ?_) (fun c4 => ?_)
        · skip
          refine lv_iload_n X.1 X.2.1 dX10_goesOn_34 rfl (lv_at hl 2 rfl) ?_
          refine rz_ge (tgt := 40) X (by omega) dX10_goesOn_35 (by decide) (fun c5 => ?_) (fun c5 => ?_)
          · skip
            have hak := ha k (by omega) (by omega)
            refine lv_aload_n X.1 X.2.1 dX10_goesOn_40 rfl (lv_at hl 0 rfl) ?_
            refine gM_model_at X I tb_727 dX10_goesOn_41 ?_
            refine lv_iload_n X.1 X.2.1 dX10_goesOn_44 rfl (lv_at hl 2 rfl) ?_
            refine lv_dup2_11 X.1 X.2.1 dX10_goesOn_45 rfl rfl ?_
            refine aM_at X I (v := (a k)) (e_a k) (by omega) dX10_goesOn_46 ?_
            refine ri_const X (v := 1) dX10_goesOn_47 ?_
            refine ri_add X (v := ((a k) + 1)) rfl dX10_goesOn_48 ?_
            refine qM_at X I (by omega) dX10_goesOn_49 (fun H locs I => ?_)
            have I : In (KM G) s s.heap H locs ((ua S.1 21 k ((a k) + 1)), S.2) := I
            refine lv_iload_n X.1 X.2.1 dX10_goesOn_50 rfl (lv_at hl 2 rfl) ?_
            refine ri_const X (v := 1) dX10_goesOn_51 ?_
            refine ri_add X (v := (k + 1)) rfl dX10_goesOn_52 ?_
            refine lv_istore_n (lv' := [(3, .int (iI (k + 1))), (0, .ref (G.2.2 0)), (1, .int (iI x)), (2, .int (iI k))]) X.1 X.2.1 dX10_goesOn_53 rfl hl (by decide) rfl (fun ls hl => ?_)
            have lp_54 : ∀ (fu_ : Nat) (j : Int) (U : Nat → Int → Int), (6 - j).toNat < fu_ → ∀ (hj : k + 1 ≤ j ∧ j ≤ m_) (hU : ∀ i : Int, 0 ≤ i → i < j → U 21 i = if i < k then a i else a k + 1 + (i - k)) (hUf : ∀ (c_ : Nat) (i : Int), ¬ c_ = 21 → U c_ i = S.1 c_ i) (H : Heap) (locs : List Loc), In (KM G) s s.heap H locs (U, S.2) → ∀ ls : Array Slot, lv_has ls 4 [(0, .ref (G.2.2 0)), (1, .int (iI x)), (2, .int (iI k)), (3, .int (iI j))] → W p l e rm_X10_goesOn s m args below meth c H locs 0 0 (MQ below (QI (KM G) (po_X10_goesOn S x m_ a)) args s 0 0 (KM G).2.2.2) (F0 m 54 ls []) := by
              intro fu_
              induction fu_ with
              | zero => intro j U hm; exact absurd hm (by omega)
              | succ fu_ ih_54 =>
                intro j U hm_54 hj hU hUf H locs I ls hl
                refine lv_iload_n X.1 X.2.1 dX10_goesOn_54 rfl (lv_at hl 3 rfl) ?_
                refine lv_aload_n X.1 X.2.1 dX10_goesOn_55 rfl (lv_at hl 0 rfl) ?_
                refine gM_model_triedSize X I (v := m_) ((hUf 62 0 (by omega)).trans e_m_) tb_725 dX10_goesOn_56 ?_
                refine rj_ge (tgt := 84) X (by omega) (by omega) dX10_goesOn_59 (by decide) (fun c6 => ?_) (fun c6 => ?_)
                · skip
                  refine ri_const X (v := 1) dX10_goesOn_84 ?_
                  exact rt_i X hr hlk I (by rfl) (by exact Or.inr ⟨rfl, rfl, k, ⟨by omega, by omega⟩, by omega, hin, fun j h1 h2 => hU j h1 (by omega), hUf⟩) dX10_goesOn_85
                · skip
                  have hj1 := hU (j - 1) (by omega) (by omega)
                  refine lv_aload_n X.1 X.2.1 dX10_goesOn_62 rfl (lv_at hl 0 rfl) ?_
                  refine gM_model_at X I tb_727 dX10_goesOn_63 ?_
                  refine lv_iload_n X.1 X.2.1 dX10_goesOn_66 rfl (lv_at hl 3 rfl) ?_
                  refine lv_aload_n X.1 X.2.1 dX10_goesOn_67 rfl (lv_at hl 0 rfl) ?_
                  refine gM_model_at X I tb_727 dX10_goesOn_68 ?_
                  refine lv_iload_n X.1 X.2.1 dX10_goesOn_71 rfl (lv_at hl 3 rfl) ?_
                  refine ri_const X (v := 1) dX10_goesOn_72 ?_
                  refine ri_sub X (v := (j - 1)) rfl dX10_goesOn_73 ?_
                  refine aM_at X I (v := (U 21 (j - 1))) rfl (by omega) dX10_goesOn_74 ?_
                  refine ri_const X (v := 1) dX10_goesOn_75 ?_
                  refine ri_add X (v := ((U 21 (j - 1)) + 1)) rfl dX10_goesOn_76 ?_
                  refine qM_at X I (by omega) dX10_goesOn_77 (fun H locs I => ?_)
                  have I : In (KM G) s s.heap H locs ((ua U 21 j ((U 21 (j - 1)) + 1)), S.2) := I
                  refine ri_iinc X (k := 3) (v := (j + 1)) (lv' := [(3, .int (iI (j + 1))), (0, .ref (G.2.2 0)), (1, .int (iI x)), (2, .int (iI k))]) rfl dX10_goesOn_78 hl rfl (by decide) rfl (fun ls hl => ?_)
                  refine lv_goto (tgt := 54) X.1 X.2.1 dX10_goesOn_81 (by decide) ?_
                  exact ih_54 (j + 1) (ua U 21 j ((U 21 (j - 1)) + 1)) (by omega) (by omega) (fun i h1 h2 => by
      rw [ua_at]
      by_cases q : i = j
      · rw [if_pos ⟨rfl, q⟩, if_neg (by omega), hj1, if_neg (by omega), q]; omega
      · rw [if_neg (by omega)]; exact hU i h1 (by omega)) (fun c_ i h => by rw [ua_nc h]; exact hUf c_ i h) _ _ I ls (lv_sub hl [1, 2, 3, 0] rfl)
            exact lp_54 (7) (k + 1) (ua S.1 21 k ((a k) + 1)) (by omega) (by omega) (fun i h1 h2 => by
      rw [ua_at]
      by_cases q : i = k
      · rw [if_pos ⟨rfl, q⟩, if_neg (by omega), q]; omega
      · rw [if_neg (by omega), if_pos (by omega)]; exact e_a i) (fun c_ i h => ua_nc h) _ _ I ls (lv_sub hl [1, 2, 3, 0] rfl)
          · skip
            refine ri_const X (v := 0) dX10_goesOn_38 ?_
            exact rt_i X hr hlk I (by rfl) (by exact Or.inl ⟨rfl, rfl, fun j h1 h2 => hin j (by omega) h2⟩) dX10_goesOn_39
        · skip
          refine ri_iinc X (k := 2) (v := (k + (-1))) (lv' := [(2, .int (iI (k + (-1)))), (0, .ref (G.2.2 0)), (1, .int (iI x))]) rfl dX10_goesOn_28 hl rfl (by decide) rfl (fun ls hl => ?_)
          refine lv_goto (tgt := 7) X.1 X.2.1 dX10_goesOn_31 (by decide) ?_
          exact ih_7 (k + (-1)) (by omega) (by omega) (fun j h1 h2 => if q : j = k then (by rw [q]; omega) else hin j (by omega) h2) _ _ I ls (lv_sub hl [1, 2, 0] rfl)
  exact lp_7 (8) (m_ - 1) (by omega) (by omega) (fun j h1 h2 => absurd h2 (by omega)) _ _ I ls (lv_sub hl [1, 2, 0] rfl)

theorem ok_X10_waysOf : yX10_waysOf.cls ≠ "java/lang/invoke/MethodHandle" ∧ yX10_waysOf.cls ≠ "java/lang/invoke/VarHandle" ∧ (parseMethodDescriptor yX10_waysOf.desc).map (fun d => d.parameters.length) = some 1 := ⟨by decide +kernel, by decide +kernel, by decide +kernel⟩
abbrev po_X10_waysOf (S : St)  (x : Int) (sa : Int → Int) (kd : Int) (n_ : Int) (m_ : Int) (f : Int → Int) (b_ : Int) (r_ : Int) (g_ : Int) : Int → St → Prop := fun r S1 => r = (resS (fun z_ => sa (12 * x + z_)) f kd b_ r_ g_ n_ m_).1 ∧ S1.2 = S.2 ∧ S1.1 63 0 = (resS (fun z_ => sa (12 * x + z_)) f kd b_ r_ g_ n_ m_).2.1 ∧ (¬ r = 0 → lst (S1.1 22) m_.toNat 0 = (resS (fun z_ => sa (12 * x + z_)) f kd b_ r_ g_ n_ m_).2.2) ∧ (0 ≤ r ∧ r ≤ 4096) ∧ (-2000 ≤ S1.1 63 0 ∧ S1.1 63 0 ≤ 2000) ∧ ∀ (c_ : Nat) (i : Int), ¬ c_ = 21 → ¬ c_ = 22 → ¬ c_ = 63 → S1.1 c_ i = S.1 c_ i
abbrev rm_X10_waysOf : Room := ({ frames := 4, cells := 0, slots := 0, locals := 86 } : Room)
set_option maxRecDepth 100000 in
set_option maxHeartbeats 4000000 in
theorem k_X10_waysOf (l : Launch) (G : Ge) (S : St)  (x : Int) (sa : Int → Int) (kd : Int) (n_ : Int) (m_ : Int) (f : Int → Int) (b_ : Int) (r_ : Int) (g_ : Int) (e_sa : ∀ i : Int, S.1 2 i = sa i) (e_kd : S.1 4 x = kd) (e_n_ : S.1 3 x = n_) (e_m_ : S.1 62 0 = m_) (e_f : ∀ i : Int, S.1 20 i = f i) (e_b_ : S.1 7 0 = b_) (e_r_ : S.1 7 1 = r_) (e_g_ : S.1 7 2 = g_) (hx : 0 ≤ x ∧ x < 8) (hkd : 0 ≤ kd ∧ kd ≤ 3) (hn_ : 1 ≤ n_ ∧ n_ ≤ 12) (hs : ∀ k : Int, 0 ≤ k → k < n_ → ((97 ≤ sa (12 * x + k) ∧ sa (12 * x + k) ≤ 122) ∨ (65 ≤ sa (12 * x + k) ∧ sa (12 * x + k) ≤ 90) ∨ sa (12 * x + k) = 95)) (hm_ : 0 ≤ m_ ∧ m_ ≤ 6) (hf : ∀ j : Int, 0 ≤ j → j < m_ → ((97 ≤ f j ∧ f j ≤ 122) ∨ (65 ≤ f j ∧ f j ≤ 90))) (hb : 0 ≤ b_ ∧ b_ ≤ 9) (hr_ : 0 ≤ r_ ∧ r_ ≤ 9) (hg : 0 ≤ g_ ∧ g_ ≤ 9) : Ki (KM G) l yX10_waysOf cX10_waysOf 6 .int rm_X10_waysOf [.ref (G.2.2 0), .int (iI x)] S (po_X10_waysOf S x sa kd n_ m_ f b_ r_ g_) := by
  refine K_start (own := "NameSeekerModel") (by decide +kernel) rfl (Nat.le_of_ble_eq_true rfl) ?_
  intro p e s m args below meth c X hr hlk I ls hl
  have hl : lv_has ls 6 [(0, .ref (G.2.2 0)), (1, .int (iI x))] := hl
  refine lv_aload_n X.1 X.2.1 dX10_waysOf_0 rfl (lv_at hl 0 rfl) ?_
  refine ri_push X (v := (-4)) (by decide) dX10_waysOf_1 ?_
  refine pM_model_bestWorth X I tb_729 dX10_waysOf_3 (fun H locs I => ?_)
  have I : In (KM G) s s.heap H locs ((us S.1 63 (-4)), S.2) := I
  refine lv_aload_n X.1 X.2.1 dX10_waysOf_6 rfl (lv_at hl 0 rfl) ?_
  refine gM_model_triedSize X I (v := m_) (by show (us S.1 63 (-4)) 62 0 = _; rw [us_nc (by decide)]; exact e_m_) tb_725 dX10_waysOf_7 ?_
  refine lv_aload_n X.1 X.2.1 dX10_waysOf_10 rfl (lv_at hl 0 rfl) ?_
  refine gM_model_sizes X I tb_698 dX10_waysOf_11 ?_
  refine lv_iload_n X.1 X.2.1 dX10_waysOf_14 rfl (lv_at hl 1 rfl) ?_
  refine aM_sizes X I (v := n_) (by show (us S.1 63 (-4)) 3 x = _; rw [us_nc (by decide)]; exact e_n_) (by omega) dX10_waysOf_15 ?_
  refine rj_le (tgt := 21) X (by omega) (by omega) dX10_waysOf_16 (by decide) (fun c1 => ?_) (fun c1 => ?_)
  · skip
    refine ri_const X (v := 0) dX10_waysOf_21 ?_
    refine lv_istore_n (lv' := [(2, .int (iI 0)), (0, .ref (G.2.2 0)), (1, .int (iI x))]) X.1 X.2.1 dX10_waysOf_22 rfl hl (by decide) rfl (fun ls hl => ?_)
    have lp_23 : ∀ (fu_ : Nat) (k : Int) (U : Nat → Int → Int), (6 - k).toNat < fu_ → ∀ (hk : 0 ≤ k ∧ k ≤ m_) (hU : ∀ i : Int, 0 ≤ i → i < k → U 21 i = i) (hUf : ∀ (c_ : Nat) (i : Int), ¬ c_ = 21 → U c_ i = us S.1 63 (-4) c_ i) (H : Heap) (locs : List Loc), In (KM G) s s.heap H locs (U, S.2) → ∀ ls : Array Slot, lv_has ls 6 [(0, .ref (G.2.2 0)), (1, .int (iI x)), (2, .int (iI k))] → W p l e rm_X10_waysOf s m args below meth c H locs 0 0 (MQ below (QI (KM G) (po_X10_waysOf S x sa kd n_ m_ f b_ r_ g_)) args s 0 0 (KM G).2.2.2) (F0 m 23 ls []) := by
      intro fu_
      induction fu_ with
      | zero => intro k U hm; exact absurd hm (by omega)
      | succ fu_ ih_23 =>
        intro k U hm_23 hk hU hUf H locs I ls hl
        refine lv_iload_n X.1 X.2.1 dX10_waysOf_23 rfl (lv_at hl 2 rfl) ?_
        refine lv_aload_n X.1 X.2.1 dX10_waysOf_24 rfl (lv_at hl 0 rfl) ?_
        refine gM_model_triedSize X I (v := m_) ((hUf 62 0 (by omega)).trans (by show (us S.1 63 (-4)) 62 0 = _; rw [us_nc (by decide)]; exact e_m_)) tb_725 dX10_waysOf_25 ?_
        refine rj_ge (tgt := 44) X (by omega) (by omega) dX10_waysOf_28 (by decide) (fun c2 => ?_) (fun c2 => ?_)
        · skip
          have hz0 : ((1 : Int) = 1 ∧ (wl (fun _ _ => true) n_.toNat m_.toNat 0 0).length = (frm (fun _ _ => true) n_ (lst (U 21) m_.toNat 0) 0).length ∧ fw (rwt (opl (bgv (fun z_ => sa (12 * x + z_)) n_.toNat) kd b_) (ost kd r_ g_)) (frm (alS (fun z_ => sa (12 * x + z_)) kd f) n_ (lst (U 21) m_.toNat 0) 0) 0 (-4) [] = (resS (fun z_ => sa (12 * x + z_)) f kd b_ r_ g_ n_ m_)) ∨ ((1 : Int) = 0 ∧ (wl (fun _ _ => true) n_.toNat m_.toNat 0 0).length = 0 ∧ ((0 : Int), (-4 : Int), ([] : List Int)) = (resS (fun z_ => sa (12 * x + z_)) f kd b_ r_ g_ n_ m_)) := by
            have e_ : (lst (U 21) m_.toNat 0) = csc m_.toNat 0 := lst_csc _ _ _ (fun j a b => by rw [hU j a (by omega)]; omega)
            rw [e_, frm_csc _ _ _ _ (by omega), frm_csc _ _ _ _ (by omega), show (n_ - 0).toNat = n_.toNat by omega]
            exact Or.inl ⟨rfl, rfl, rfl⟩
          refine ri_const X (v := 0) dX10_waysOf_44 ?_
          refine lv_istore_n (lv' := [(2, .int (iI 0)), (0, .ref (G.2.2 0)), (1, .int (iI x))]) X.1 X.2.1 dX10_waysOf_45 rfl hl (by decide) rfl (fun ls hl => ?_)
          refine ri_const X (v := 1) dX10_waysOf_46 ?_
          refine lv_istore_n (lv' := [(3, .int (iI 1)), (2, .int (iI 0)), (0, .ref (G.2.2 0)), (1, .int (iI x))]) X.1 X.2.1 dX10_waysOf_47 rfl hl (by decide) rfl (fun ls hl => ?_)
          have lp_48 : ∀ (fu_ : Nat) (z : Nat) (mn : Int) (mo : Int) (bw : Int) (br : List Int) (U : Nat → Int → Int), z < fu_ → ∀ (hz : (mo = 1 ∧ z = (frm (fun _ _ => true) n_ (lst (U 21) m_.toNat 0) 0).length ∧ fw (rwt (opl (bgv (fun z_ => sa (12 * x + z_)) n_.toNat) kd b_) (ost kd r_ g_)) (frm (alS (fun z_ => sa (12 * x + z_)) kd f) n_ (lst (U 21) m_.toNat 0) 0) mn bw br = (resS (fun z_ => sa (12 * x + z_)) f kd b_ r_ g_ n_ m_)) ∨ (mo = 0 ∧ z = 0 ∧ (mn, bw, br) = (resS (fun z_ => sa (12 * x + z_)) f kd b_ r_ g_ n_ m_))) (hmn : 0 ≤ mn ∧ mn + z ≤ 4096) (hbwr : -2000 ≤ bw ∧ bw ≤ 2000) (hrow : ∀ j : Int, 0 ≤ j → j < m_ → 0 ≤ U 21 j ∧ U 21 j ≤ n_ - m_ + j) (hbr : mn = 0 ∨ lst (U 22) m_.toNat 0 = br) (hbw : U 63 0 = bw) (hUf : ∀ (c_ : Nat) (i : Int), ¬ c_ = 21 → ¬ c_ = 22 → ¬ c_ = 63 → U c_ i = S.1 c_ i) (H : Heap) (locs : List Loc), In (KM G) s s.heap H locs (U, S.2) → ∀ ls : Array Slot, lv_has ls 6 [(0, .ref (G.2.2 0)), (1, .int (iI x)), (2, .int (iI mn)), (3, .int (iI mo))] → W p l e rm_X10_waysOf s m args below meth c H locs 0 0 (MQ below (QI (KM G) (po_X10_waysOf S x sa kd n_ m_ f b_ r_ g_)) args s 0 0 (KM G).2.2.2) (F0 m 48 ls []) := by
            intro fu_
            induction fu_ with
            | zero => intro z mn mo bw br U hm; exact absurd hm (by omega)
            | succ fu_ ih_48 =>
              intro z mn mo bw br U hm_48 hz hmn hbwr hrow hbr hbw hUf H locs I ls hl
              refine lv_iload_n X.1 X.2.1 dX10_waysOf_48 rfl (lv_at hl 3 rfl) ?_
              refine rz_eq (tgt := 136) X (by omega) dX10_waysOf_49 (by decide) (fun c3 => ?_) (fun c3 => ?_)
              · skip
                have hfin : (mn, bw, br) = (resS (fun z_ => sa (12 * x + z_)) f kd b_ r_ g_ n_ m_) := by
                  rcases hz with h | h
                  · exact absurd h.1 (by omega)
                  · exact h.2.2
                refine lv_iload_n X.1 X.2.1 dX10_waysOf_136 rfl (lv_at hl 2 rfl) ?_
                exact rt_i X hr hlk I rfl (by exact ⟨by rw [← hfin], rfl, by rw [← hfin]; exact hbw, fun z => by rw [← hfin]; exact hbr.resolve_left z, by omega, by show -2000 ≤ U 63 0 ∧ U 63 0 ≤ 2000; rw [hbw]; exact hbwr, hUf⟩) dX10_waysOf_137
              · skip
                obtain ⟨hmo, hz1, hz2⟩ : mo = 1 ∧ z = (frm (fun _ _ => true) n_ (lst (U 21) m_.toNat 0) 0).length ∧ fw (rwt (opl (bgv (fun z_ => sa (12 * x + z_)) n_.toNat) kd b_) (ost kd r_ g_)) (frm (alS (fun z_ => sa (12 * x + z_)) kd f) n_ (lst (U 21) m_.toNat 0) 0) mn bw br = (resS (fun z_ => sa (12 * x + z_)) f kd b_ r_ g_ n_ m_) := by
                  rcases hz with h | h
                  · exact h
                  · exact absurd h.1 (by omega)
                rw [frmT_len] at hz1
                refine lv_aload_n X.1 X.2.1 dX10_waysOf_52 rfl (lv_at hl 0 rfl) ?_
                refine lv_iload_n X.1 X.2.1 dX10_waysOf_53 rfl (lv_at hl 1 rfl) ?_
                refine cl_i I (runV (As := [.int (iI x)]) (rest := []) X (k_X10_isWay l G (U, S.2)  x (sa) kd n_ m_ (U 21) (f) (fun i_ => ((hUf 2 i_ (by omega) (by omega) (by omega)).trans (e_sa i_))) ((hUf 4 x (by omega) (by omega) (by omega)).trans e_kd) ((hUf 3 x (by omega) (by omega) (by omega)).trans e_n_) ((hUf 62 0 (by omega) (by omega) (by omega)).trans e_m_) (fun i_ => rfl) (fun i_ => ((hUf 20 i_ (by omega) (by omega) (by omega)).trans (e_f i_))) (by omega) (by omega) hn_ hs hm_ hf (fun j a b => by have := hrow j a b; omega)) (gdC tb_940 (gdC tb_942 (gdC tb_24 (gdC tb_48 (gdC tb_943 gdB))))) ⟨ok_X10_isWay, ⟨Nat.le_of_ble_eq_true rfl, Nat.le_of_ble_eq_true rfl⟩, rfl, rfl⟩ (PreV.of (C := RX10) (T := TX10) (N := 41) I (atM_model) rfl) rfl hl.1 rfl (Nat.le_of_ble_eq_true rfl) dX10_waysOf_54 ⟨Nat.zero_le _, Nat.zero_le _⟩) (fun r4 S5 H locs q6 I => ?_)
                obtain ⟨e1_, e2_⟩ := q6
                rw [e2_] at I
                rw [e1_]
                clear e1_ e2_
                rcases Decidable.em (okr (alS (fun z_ => (sa) (12 * x + z_)) kd (f)) (lst (U 21) m_.toNat 0) 0 = true) with b7 | b7
                · rw [bI_t b7]
                  refine rz_eq (tgt := 122) X (by omega) dX10_waysOf_57 (by decide) (fun c8 => absurd c8 (by decide)) (fun _ => ?_)
                  refine ri_iinc X (k := 2) (v := (mn + 1)) (lv' := [(2, .int (iI (mn + 1))), (0, .ref (G.2.2 0)), (1, .int (iI x)), (3, .int (iI mo))]) rfl dX10_waysOf_60 hl rfl (by decide) rfl (fun ls hl => ?_)
                  refine lv_aload_n X.1 X.2.1 dX10_waysOf_63 rfl (lv_at hl 1 rfl) ?_
                  refine lv_iload_n X.1 X.2.1 dX10_waysOf_64 rfl (lv_at hl 2 rfl) ?_
                  refine cl_i I (runV (As := [.int (iI x)]) (rest := []) X (k_X10_worthOfWay l G (U, S.2)  x (sa) kd n_ m_ (U 21) b_ r_ g_ (fun i_ => ((hUf 2 i_ (by omega) (by omega) (by omega)).trans (e_sa i_))) ((hUf 4 x (by omega) (by omega) (by omega)).trans e_kd) ((hUf 3 x (by omega) (by omega) (by omega)).trans e_n_) ((hUf 62 0 (by omega) (by omega) (by omega)).trans e_m_) (fun i_ => rfl) ((hUf 7 0 (by omega) (by omega) (by omega)).trans e_b_) ((hUf 7 1 (by omega) (by omega) (by omega)).trans e_r_) ((hUf 7 2 (by omega) (by omega) (by omega)).trans e_g_) (by omega) (by omega) hn_ hs hm_ (fun j a b => by have := hrow j a b; omega) hb hr_ hg) (gdC tb_951 (gdC tb_953 (gdC tb_26 (gdC tb_48 (gdC tb_954 gdB))))) ⟨ok_X10_worthOfWay, ⟨Nat.le_of_ble_eq_true rfl, Nat.le_of_ble_eq_true rfl⟩, rfl, rfl⟩ (PreV.of (C := RX10) (T := TX10) (N := 41) I (atM_model) rfl) rfl hl.1 rfl (Nat.le_of_ble_eq_true rfl) dX10_waysOf_65 ⟨Nat.zero_le _, Nat.zero_le _⟩) (fun r9 S10 H locs q11 I => ?_)
                  obtain ⟨e1_, e2_⟩ := q11
                  rw [e2_] at I
                  rw [e1_]
                  clear e1_ e2_
                  have hww := wmv_r (bg := bgv (fun z_ => sa (12 * x + z_)) n_.toNat) (kd := kd) (a := (U 21)) hb hr_ hg m_.toNat (fun j h1 h2 => ⟨(hrow j h1 (by omega)).1, by have := (hrow j h1 (by omega)).2; omega⟩)
                  refine lv_istore (lv' := [(4, .int (iI (wmv (opl (bgv (fun z_ => sa (12 * x + z_)) n_.toNat) kd b_) (ost kd r_ g_) (U 21) m_.toNat))), (2, .int (iI (mn + 1))), (0, .ref (G.2.2 0)), (1, .int (iI x)), (3, .int (iI mo))]) X.1 X.2.1 dX10_waysOf_68 hl (by decide) rfl (fun ls hl => ?_)
                  refine lv_iload_n X.1 X.2.1 dX10_waysOf_70 rfl (lv_at hl 1 rfl) ?_
                  refine ri_const X (v := 1) dX10_waysOf_71 ?_
                  refine rj_eq (tgt := 84) X (by omega) (by omega) dX10_waysOf_72 (by decide) (fun c12 => ?_) (fun c12 => ?_)
                  · skip
                    refine lv_aload_n X.1 X.2.1 dX10_waysOf_84 rfl (lv_at hl 2 rfl) ?_
                    refine lv_iload X.1 X.2.1 dX10_waysOf_85 (lv_at hl 0 rfl) ?_
                    refine pM_model_bestWorth X I tb_729 dX10_waysOf_87 (fun H locs I => ?_)
                    have I : In (KM G) s s.heap H locs ((us U 63 (wmv (opl (bgv (fun z_ => sa (12 * x + z_)) n_.toNat) kd b_) (ost kd r_ g_) (U 21) m_.toNat)), S.2) := I
                    refine ri_const X (v := 0) dX10_waysOf_90 ?_
                    refine lv_istore (lv' := [(5, .int (iI 0)), (4, .int (iI (wmv (opl (bgv (fun z_ => sa (12 * x + z_)) n_.toNat) kd b_) (ost kd r_ g_) (U 21) m_.toNat))), (2, .int (iI (mn + 1))), (0, .ref (G.2.2 0)), (1, .int (iI x)), (3, .int (iI mo))]) X.1 X.2.1 dX10_waysOf_91 hl (by decide) rfl (fun ls hl => ?_)
                    have lp_93 : ∀ (fu_ : Nat) (i : Int) (V : Nat → Int → Int), (6 - i).toNat < fu_ → ∀ (hi : 0 ≤ i ∧ i ≤ m_) (hV : ∀ j : Int, 0 ≤ j → j < i → V 22 j = U 21 j) (hVf : ∀ (c_ : Nat) (j : Int), ¬ c_ = 22 → V c_ j = us U 63 (wmv (opl (bgv (fun z_ => sa (12 * x + z_)) n_.toNat) kd b_) (ost kd r_ g_) (U 21) m_.toNat) c_ j) (H : Heap) (locs : List Loc), In (KM G) s s.heap H locs (V, S.2) → ∀ ls : Array Slot, lv_has ls 6 [(0, .ref (G.2.2 0)), (1, .int (iI x)), (2, .int (iI (mn + 1))), (3, .int (iI mo)), (4, .int (iI (wmv (opl (bgv (fun z_ => sa (12 * x + z_)) n_.toNat) kd b_) (ost kd r_ g_) (U 21) m_.toNat))), (5, .int (iI i))] → W p l e rm_X10_waysOf s m args below meth c H locs 0 0 (MQ below (QI (KM G) (po_X10_waysOf S x sa kd n_ m_ f b_ r_ g_)) args s 0 0 (KM G).2.2.2) (F0 m 93 ls []) := by
                      intro fu_
                      induction fu_ with
                      | zero => intro i V hm; exact absurd hm (by omega)
                      | succ fu_ ih_93 =>
                        intro i V hm_93 hi hV hVf H locs I ls hl
                        refine lv_iload X.1 X.2.1 dX10_waysOf_93 (lv_at hl 5 rfl) ?_
                        refine lv_aload_n X.1 X.2.1 dX10_waysOf_95 rfl (lv_at hl 0 rfl) ?_
                        refine gM_model_triedSize X I (v := m_) ((hVf 62 0 (by omega)).trans (by show (us U 63 (wmv (opl (bgv (fun z_ => sa (12 * x + z_)) n_.toNat) kd b_) (ost kd r_ g_) (U 21) m_.toNat)) 62 0 = _; rw [us_nc (by decide)]; exact ((hUf 62 0 (by omega) (by omega) (by omega)).trans e_m_))) tb_725 dX10_waysOf_96 ?_
                        refine rj_ge (tgt := 122) X (by omega) (by omega) dX10_waysOf_99 (by decide) (fun c13 => ?_) (fun c13 => ?_)
                        · skip
                          have q_fw : fw (rwt (opl (bgv (fun z_ => sa (12 * x + z_)) n_.toNat) kd b_) (ost kd r_ g_)) (aft (alS (fun z_ => sa (12 * x + z_)) kd f) n_ (lst (U 21) m_.toNat 0) 0) (mn + 1) (wmv (opl (bgv (fun z_ => sa (12 * x + z_)) n_.toNat) kd b_) (ost kd r_ g_) (U 21) m_.toNat) (lst (U 21) m_.toNat 0) = (resS (fun z_ => sa (12 * x + z_)) f kd b_ r_ g_ n_ m_) := by
                            rw [fw_take (by assumption) (by rw [rwt_wmv]; omega), rwt_wmv] at hz2; exact hz2
                          have q_br : mn + 1 = 0 ∨ lst (V 22) m_.toNat 0 = (lst (U 21) m_.toNat 0) := Or.inr (lst_congr _ _ (fun j a b => hV j a (by omega)))
                          have q_bw : V 63 0 = (wmv (opl (bgv (fun z_ => sa (12 * x + z_)) n_.toNat) kd b_) (ost kd r_ g_) (U 21) m_.toNat) := (hVf 63 0 (by decide)).trans us_eq
                          have q_21 : ∀ j : Int, V 21 j = U 21 j := fun j => (hVf 21 j (by decide)).trans (us_nc (by decide))
                          have q_uf : ∀ (c_ : Nat) (i : Int), ¬ c_ = 21 → ¬ c_ = 22 → ¬ c_ = 63 → V c_ i = S.1 c_ i := fun c_ i h1 h2 h3 => ((hVf c_ i h2).trans (us_nc h3)).trans (hUf c_ i h1 h2 h3)
                          have q_rg : -2000 ≤ (wmv (opl (bgv (fun z_ => sa (12 * x + z_)) n_.toNat) kd b_) (ost kd r_ g_) (U 21) m_.toNat) ∧ (wmv (opl (bgv (fun z_ => sa (12 * x + z_)) n_.toNat) kd b_) (ost kd r_ g_) (U 21) m_.toNat) ≤ 2000 := by omega
                          refine lv_aload_n X.1 X.2.1 dX10_waysOf_122 rfl (lv_at hl 0 rfl) ?_
                          refine lv_aload_n X.1 X.2.1 dX10_waysOf_123 rfl (lv_at hl 0 rfl) ?_
                          refine gM_model_sizes X I tb_698 dX10_waysOf_124 ?_
                          refine lv_iload_n X.1 X.2.1 dX10_waysOf_127 rfl (lv_at hl 1 rfl) ?_
                          refine aM_sizes X I (v := n_) ((hVf 3 x (by omega)).trans (by show (us U 63 (wmv (opl (bgv (fun z_ => sa (12 * x + z_)) n_.toNat) kd b_) (ost kd r_ g_) (U 21) m_.toNat)) 3 x = _; rw [us_nc (by decide)]; exact ((hUf 3 x (by omega) (by omega) (by omega)).trans e_n_))) (by omega) dX10_waysOf_128 ?_
                          refine cl_i I (runV (As := [.int (iI n_)]) (rest := []) X (k_X10_goesOn l G (V, S.2)  n_ m_ (U 21) ((hVf 62 0 (by omega)).trans (by show (us U 63 (wmv (opl (bgv (fun z_ => sa (12 * x + z_)) n_.toNat) kd b_) (ost kd r_ g_) (U 21) m_.toNat)) 62 0 = _; rw [us_nc (by decide)]; exact ((hUf 62 0 (by omega) (by omega) (by omega)).trans e_m_))) (fun i_ => ((hVf 21 i_ (by omega)).trans (by show (us U 63 (wmv (opl (bgv (fun z_ => sa (12 * x + z_)) n_.toNat) kd b_) (ost kd r_ g_) (U 21) m_.toNat)) 21 i_ = _; rw [us_nc (by decide)]))) (by omega) (by omega) (fun j a b => by have := hrow j a b; omega)) (gdC tb_955 (gdC tb_957 (gdC tb_27 (gdC tb_48 (gdC tb_958 gdB))))) ⟨ok_X10_goesOn, ⟨Nat.le_of_ble_eq_true rfl, Nat.le_of_ble_eq_true rfl⟩, rfl, rfl⟩ (PreV.of (C := RX10) (T := TX10) (N := 41) I (atM_model) rfl) rfl hl.1 rfl (Nat.le_of_ble_eq_true rfl) dX10_waysOf_129 ⟨Nat.zero_le _, Nat.zero_le _⟩) (fun r14 S15 H locs q16 I => ?_)
                          rcases q16 with ⟨hA1, hA2, hA3⟩ | ⟨hB1, hB2, k0, hB3, hB4, hB5, hB6, hB7⟩
                          · rw [hA2] at I
                            rw [hA1]
                            have q_z : ((0 : Int) = 1 ∧ z - 1 = (frm (fun _ _ => true) n_ (lst (V 21) m_.toNat 0) 0).length ∧ fw (rwt (opl (bgv (fun z_ => sa (12 * x + z_)) n_.toNat) kd b_) (ost kd r_ g_)) (frm (alS (fun z_ => sa (12 * x + z_)) kd f) n_ (lst (V 21) m_.toNat 0) 0) (mn + 1) (wmv (opl (bgv (fun z_ => sa (12 * x + z_)) n_.toNat) kd b_) (ost kd r_ g_) (U 21) m_.toNat) (lst (U 21) m_.toNat 0) = (resS (fun z_ => sa (12 * x + z_)) f kd b_ r_ g_ n_ m_)) ∨ ((0 : Int) = 0 ∧ z - 1 = 0 ∧ ((mn + 1), (wmv (opl (bgv (fun z_ => sa (12 * x + z_)) n_.toNat) kd b_) (ost kd r_ g_) (U 21) m_.toNat), (lst (U 21) m_.toNat 0)) = (resS (fun z_ => sa (12 * x + z_)) f kd b_ r_ g_ n_ m_)) := by
                              rw [aft_last _ (m := m_) _ _ (by omega) (fun j a b => hA3 j a b)] at hz1 q_fw
                              exact Or.inr ⟨rfl, by rw [hz1]; rfl, q_fw⟩
                            have q_row : ∀ j : Int, 0 ≤ j → j < m_ → 0 ≤ V 21 j ∧ V 21 j ≤ n_ - m_ + j := fun j a b => by rw [q_21]; exact hrow j a b
                            refine lv_istore_n (lv' := [(3, .int (iI 0)), (0, .ref (G.2.2 0)), (1, .int (iI x)), (2, .int (iI (mn + 1))), (4, .int (iI (wmv (opl (bgv (fun z_ => sa (12 * x + z_)) n_.toNat) kd b_) (ost kd r_ g_) (U 21) m_.toNat))), (5, .int (iI i))]) X.1 X.2.1 dX10_waysOf_132 rfl hl (by decide) rfl (fun ls hl => ?_)
                            refine lv_goto (tgt := 48) X.1 X.2.1 dX10_waysOf_133 (by decide) ?_
                            exact ih_48 (z - 1) (mn + 1) 0 (wmv (opl (bgv (fun z_ => sa (12 * x + z_)) n_.toNat) kd b_) (ost kd r_ g_) (U 21) m_.toNat) (lst (U 21) m_.toNat 0) V (by omega) (q_z) (by omega) (q_rg) (q_row) (q_br) (q_bw) (q_uf) _ _ I ls (lv_sub hl [1, 2, 3, 0] rfl)
                          · obtain ⟨W1, W2⟩ := S15
                            dsimp only at hB2 hB6 hB7
                            subst hB2
                            rw [hB1]
                            have hle0 := (hrow k0 hB3.1 hB3.2).2
                            have q_z : ((1 : Int) = 1 ∧ z - 1 = (frm (fun _ _ => true) n_ (lst (W1 21) m_.toNat 0) 0).length ∧ fw (rwt (opl (bgv (fun z_ => sa (12 * x + z_)) n_.toNat) kd b_) (ost kd r_ g_)) (frm (alS (fun z_ => sa (12 * x + z_)) kd f) n_ (lst (W1 21) m_.toNat 0) 0) (mn + 1) (wmv (opl (bgv (fun z_ => sa (12 * x + z_)) n_.toNat) kd b_) (ost kd r_ g_) (U 21) m_.toNat) (lst (U 21) m_.toNat 0) = (resS (fun z_ => sa (12 * x + z_)) f kd b_ r_ g_ n_ m_)) ∨ ((1 : Int) = 0 ∧ z - 1 = 0 ∧ ((mn + 1), (wmv (opl (bgv (fun z_ => sa (12 * x + z_)) n_.toNat) kd b_) (ost kd r_ g_) (U 21) m_.toNat), (lst (U 21) m_.toNat 0)) = (resS (fun z_ => sa (12 * x + z_)) f kd b_ r_ g_ n_ m_)) := by
                              rw [aft_go _ (m := m_) (g := W1 21) hB4 hle0 hB3.2 hB5 hB6 _ _ (by omega) (by omega) (by omega)] at hz1 q_fw
                              exact Or.inl ⟨rfl, by omega, q_fw⟩
                            have q_row : ∀ j : Int, 0 ≤ j → j < m_ → 0 ≤ W1 21 j ∧ W1 21 j ≤ n_ - m_ + j := fun j a b => by
                              rw [hB6 j a b]
                              split
                              · exact hrow j a b
                              · have := hrow k0 hB3.1 hB3.2; omega
                            have q_br : (mn + 1) = 0 ∨ lst (W1 22) m_.toNat 0 = (lst (U 21) m_.toNat 0) := by
                              rw [show lst (W1 22) m_.toNat 0 = lst (V 22) m_.toNat 0 from lst_congr _ _ (fun j _ _ => hB7 22 j (by decide))]; exact q_br
                            have q_bw : W1 63 0 = (wmv (opl (bgv (fun z_ => sa (12 * x + z_)) n_.toNat) kd b_) (ost kd r_ g_) (U 21) m_.toNat) := (hB7 63 0 (by decide)).trans q_bw
                            have q_uf : ∀ (c_ : Nat) (i : Int), ¬ c_ = 21 → ¬ c_ = 22 → ¬ c_ = 63 → W1 c_ i = S.1 c_ i := fun c_ i h1 h2 h3 => (hB7 c_ i h1).trans (q_uf c_ i h1 h2 h3)
                            refine lv_istore_n (lv' := [(3, .int (iI 1)), (0, .ref (G.2.2 0)), (1, .int (iI x)), (2, .int (iI (mn + 1))), (4, .int (iI (wmv (opl (bgv (fun z_ => sa (12 * x + z_)) n_.toNat) kd b_) (ost kd r_ g_) (U 21) m_.toNat))), (5, .int (iI i))]) X.1 X.2.1 dX10_waysOf_132 rfl hl (by decide) rfl (fun ls hl => ?_)
                            refine lv_goto (tgt := 48) X.1 X.2.1 dX10_waysOf_133 (by decide) ?_
                            exact ih_48 (z - 1) (mn + 1) 1 (wmv (opl (bgv (fun z_ => sa (12 * x + z_)) n_.toNat) kd b_) (ost kd r_ g_) (U 21) m_.toNat) (lst (U 21) m_.toNat 0) W1 (by omega) (q_z) (by omega) (q_rg) (q_row) (q_br) (q_bw) (q_uf) _ _ I ls (lv_sub hl [1, 2, 3, 0] rfl)
                        · skip
                          refine lv_aload_n X.1 X.2.1 dX10_waysOf_102 rfl (lv_at hl 0 rfl) ?_
                          refine gM_model_bestAt X I tb_728 dX10_waysOf_103 ?_
                          refine lv_iload X.1 X.2.1 dX10_waysOf_106 (lv_at hl 5 rfl) ?_
                          refine lv_aload_n X.1 X.2.1 dX10_waysOf_108 rfl (lv_at hl 0 rfl) ?_
                          refine gM_model_at X I tb_727 dX10_waysOf_109 ?_
                          refine lv_iload X.1 X.2.1 dX10_waysOf_112 (lv_at hl 5 rfl) ?_
                          refine aM_at X I (v := (U 21 i)) ((hVf 21 i (by omega)).trans (by show (us U 63 (wmv (opl (bgv (fun z_ => sa (12 * x + z_)) n_.toNat) kd b_) (ost kd r_ g_) (U 21) m_.toNat)) 21 i = _; rw [us_nc (by decide)])) (by omega) dX10_waysOf_114 ?_
                          refine qM_bestAt X I (by omega) dX10_waysOf_115 (fun H locs I => ?_)
                          have I : In (KM G) s s.heap H locs ((ua V 22 i (U 21 i)), S.2) := I
                          refine ri_iinc X (k := 5) (v := (i + 1)) (lv' := [(5, .int (iI (i + 1))), (0, .ref (G.2.2 0)), (1, .int (iI x)), (2, .int (iI (mn + 1))), (3, .int (iI mo)), (4, .int (iI (wmv (opl (bgv (fun z_ => sa (12 * x + z_)) n_.toNat) kd b_) (ost kd r_ g_) (U 21) m_.toNat)))]) rfl dX10_waysOf_116 hl rfl (by decide) rfl (fun ls hl => ?_)
                          refine lv_goto (tgt := 93) X.1 X.2.1 dX10_waysOf_119 (by decide) ?_
                          exact ih_93 (i + 1) (ua V 22 i (U 21 i)) (by omega) (by omega) (fun j h1 h2 => by
      rw [ua_at]
      by_cases q : j = i
      · rw [if_pos ⟨rfl, q⟩, q]
      · rw [if_neg (by omega)]; exact hV j h1 (by omega)) (fun c_ j h => by rw [ua_nc h]; exact hVf c_ j h) _ _ I ls (lv_sub hl [1, 2, 3, 4, 5, 0] rfl)
                    exact lp_93 (7) 0 (us U 63 (wmv (opl (bgv (fun z_ => sa (12 * x + z_)) n_.toNat) kd b_) (ost kd r_ g_) (U 21) m_.toNat)) (by omega) (by omega) (fun j h1 h2 => absurd h2 (by omega)) (fun c_ j _ => rfl) _ _ I ls (lv_sub hl [3, 4, 2, 5, 1, 0] rfl)
                  · skip
                    refine lv_iload X.1 X.2.1 dX10_waysOf_75 (lv_at hl 0 rfl) ?_
                    refine lv_aload_n X.1 X.2.1 dX10_waysOf_77 rfl (lv_at hl 2 rfl) ?_
                    refine gM_model_bestWorth X I (v := bw) hbw tb_729 dX10_waysOf_78 ?_
                    refine rj_le (tgt := 122) X (by omega) (by omega) dX10_waysOf_81 (by decide) (fun c17 => ?_) (fun c17 => ?_)
                    · skip
                      have q_fw : fw (rwt (opl (bgv (fun z_ => sa (12 * x + z_)) n_.toNat) kd b_) (ost kd r_ g_)) (aft (alS (fun z_ => sa (12 * x + z_)) kd f) n_ (lst (U 21) m_.toNat 0) 0) (mn + 1) bw br = (resS (fun z_ => sa (12 * x + z_)) f kd b_ r_ g_ n_ m_) := by
                        rw [fw_pass (by assumption) (by rw [rwt_wmv]; omega)] at hz2; exact hz2
                      have q_br : mn + 1 = 0 ∨ lst (U 22) m_.toNat 0 = br := Or.inr (hbr.resolve_left (by omega))
                      have q_bw : U 63 0 = bw := hbw
                      have q_21 : ∀ j : Int, U 21 j = U 21 j := fun _ => rfl
                      have q_uf := hUf
                      have q_rg := hbwr
                      refine lv_aload_n X.1 X.2.1 dX10_waysOf_122 rfl (lv_at hl 2 rfl) ?_
                      refine lv_aload_n X.1 X.2.1 dX10_waysOf_123 rfl (lv_at hl 2 rfl) ?_
                      refine gM_model_sizes X I tb_698 dX10_waysOf_124 ?_
                      refine lv_iload_n X.1 X.2.1 dX10_waysOf_127 rfl (lv_at hl 3 rfl) ?_
                      refine aM_sizes X I (v := n_) ((hUf 3 x (by omega) (by omega) (by omega)).trans e_n_) (by omega) dX10_waysOf_128 ?_
                      refine cl_i I (runV (As := [.int (iI n_)]) (rest := []) X (k_X10_goesOn l G (U, S.2)  n_ m_ (U 21) ((hUf 62 0 (by omega) (by omega) (by omega)).trans e_m_) (fun i_ => rfl) (by omega) (by omega) (fun j a b => by have := hrow j a b; omega)) (gdC tb_955 (gdC tb_957 (gdC tb_27 (gdC tb_48 (gdC tb_958 gdB))))) ⟨ok_X10_goesOn, ⟨Nat.le_of_ble_eq_true rfl, Nat.le_of_ble_eq_true rfl⟩, rfl, rfl⟩ (PreV.of (C := RX10) (T := TX10) (N := 41) I (atM_model) rfl) rfl hl.1 rfl (Nat.le_of_ble_eq_true rfl) dX10_waysOf_129 ⟨Nat.zero_le _, Nat.zero_le _⟩) (fun r18 S19 H locs q20 I => ?_)
                      rcases q20 with ⟨hA1, hA2, hA3⟩ | ⟨hB1, hB2, k0, hB3, hB4, hB5, hB6, hB7⟩
                      · rw [hA2] at I
                        rw [hA1]
                        have q_z : ((0 : Int) = 1 ∧ z - 1 = (frm (fun _ _ => true) n_ (lst (U 21) m_.toNat 0) 0).length ∧ fw (rwt (opl (bgv (fun z_ => sa (12 * x + z_)) n_.toNat) kd b_) (ost kd r_ g_)) (frm (alS (fun z_ => sa (12 * x + z_)) kd f) n_ (lst (U 21) m_.toNat 0) 0) (mn + 1) bw br = (resS (fun z_ => sa (12 * x + z_)) f kd b_ r_ g_ n_ m_)) ∨ ((0 : Int) = 0 ∧ z - 1 = 0 ∧ ((mn + 1), bw, br) = (resS (fun z_ => sa (12 * x + z_)) f kd b_ r_ g_ n_ m_)) := by
                          rw [aft_last _ (m := m_) _ _ (by omega) (fun j a b => hA3 j a b)] at hz1 q_fw
                          exact Or.inr ⟨rfl, by rw [hz1]; rfl, q_fw⟩
                        have q_row : ∀ j : Int, 0 ≤ j → j < m_ → 0 ≤ U 21 j ∧ U 21 j ≤ n_ - m_ + j := fun j a b => by rw [q_21]; exact hrow j a b
                        refine lv_istore_n (lv' := [(3, .int (iI 0)), (4, .int (iI (wmv (opl (bgv (fun z_ => sa (12 * x + z_)) n_.toNat) kd b_) (ost kd r_ g_) (U 21) m_.toNat))), (2, .int (iI (mn + 1))), (0, .ref (G.2.2 0)), (1, .int (iI x))]) X.1 X.2.1 dX10_waysOf_132 rfl hl (by decide) rfl (fun ls hl => ?_)
                        refine lv_goto (tgt := 48) X.1 X.2.1 dX10_waysOf_133 (by decide) ?_
                        exact ih_48 (z - 1) (mn + 1) 0 bw br U (by omega) (q_z) (by omega) (q_rg) (q_row) (q_br) (q_bw) (q_uf) _ _ I ls (lv_sub hl [3, 4, 2, 0] rfl)
                      · obtain ⟨W1, W2⟩ := S19
                        dsimp only at hB2 hB6 hB7
                        subst hB2
                        rw [hB1]
                        have hle0 := (hrow k0 hB3.1 hB3.2).2
                        have q_z : ((1 : Int) = 1 ∧ z - 1 = (frm (fun _ _ => true) n_ (lst (W1 21) m_.toNat 0) 0).length ∧ fw (rwt (opl (bgv (fun z_ => sa (12 * x + z_)) n_.toNat) kd b_) (ost kd r_ g_)) (frm (alS (fun z_ => sa (12 * x + z_)) kd f) n_ (lst (W1 21) m_.toNat 0) 0) (mn + 1) bw br = (resS (fun z_ => sa (12 * x + z_)) f kd b_ r_ g_ n_ m_)) ∨ ((1 : Int) = 0 ∧ z - 1 = 0 ∧ ((mn + 1), bw, br) = (resS (fun z_ => sa (12 * x + z_)) f kd b_ r_ g_ n_ m_)) := by
                          rw [aft_go _ (m := m_) (g := W1 21) hB4 hle0 hB3.2 hB5 hB6 _ _ (by omega) (by omega) (by omega)] at hz1 q_fw
                          exact Or.inl ⟨rfl, by omega, q_fw⟩
                        have q_row : ∀ j : Int, 0 ≤ j → j < m_ → 0 ≤ W1 21 j ∧ W1 21 j ≤ n_ - m_ + j := fun j a b => by
                          rw [hB6 j a b]
                          split
                          · exact hrow j a b
                          · have := hrow k0 hB3.1 hB3.2; omega
                        have q_br : (mn + 1) = 0 ∨ lst (W1 22) m_.toNat 0 = br := by
                          rw [show lst (W1 22) m_.toNat 0 = lst (U 22) m_.toNat 0 from lst_congr _ _ (fun j _ _ => hB7 22 j (by decide))]; exact q_br
                        have q_bw : W1 63 0 = bw := (hB7 63 0 (by decide)).trans q_bw
                        have q_uf : ∀ (c_ : Nat) (i : Int), ¬ c_ = 21 → ¬ c_ = 22 → ¬ c_ = 63 → W1 c_ i = S.1 c_ i := fun c_ i h1 h2 h3 => (hB7 c_ i h1).trans (q_uf c_ i h1 h2 h3)
                        refine lv_istore_n (lv' := [(3, .int (iI 1)), (4, .int (iI (wmv (opl (bgv (fun z_ => sa (12 * x + z_)) n_.toNat) kd b_) (ost kd r_ g_) (U 21) m_.toNat))), (2, .int (iI (mn + 1))), (0, .ref (G.2.2 0)), (1, .int (iI x))]) X.1 X.2.1 dX10_waysOf_132 rfl hl (by decide) rfl (fun ls hl => ?_)
                        refine lv_goto (tgt := 48) X.1 X.2.1 dX10_waysOf_133 (by decide) ?_
                        exact ih_48 (z - 1) (mn + 1) 1 bw br W1 (by omega) (q_z) (by omega) (q_rg) (q_row) (q_br) (q_bw) (q_uf) _ _ I ls (lv_sub hl [3, 4, 2, 0] rfl)
                    · skip
                      refine lv_aload_n X.1 X.2.1 dX10_waysOf_84 rfl (lv_at hl 2 rfl) ?_
                      refine lv_iload X.1 X.2.1 dX10_waysOf_85 (lv_at hl 0 rfl) ?_
                      refine pM_model_bestWorth X I tb_729 dX10_waysOf_87 (fun H locs I => ?_)
                      have I : In (KM G) s s.heap H locs ((us U 63 (wmv (opl (bgv (fun z_ => sa (12 * x + z_)) n_.toNat) kd b_) (ost kd r_ g_) (U 21) m_.toNat)), S.2) := I
                      refine ri_const X (v := 0) dX10_waysOf_90 ?_
                      refine lv_istore (lv' := [(5, .int (iI 0)), (4, .int (iI (wmv (opl (bgv (fun z_ => sa (12 * x + z_)) n_.toNat) kd b_) (ost kd r_ g_) (U 21) m_.toNat))), (2, .int (iI (mn + 1))), (0, .ref (G.2.2 0)), (1, .int (iI x)), (3, .int (iI mo))]) X.1 X.2.1 dX10_waysOf_91 hl (by decide) rfl (fun ls hl => ?_)
                      have lp_93 : ∀ (fu_ : Nat) (i : Int) (V : Nat → Int → Int), (6 - i).toNat < fu_ → ∀ (hi : 0 ≤ i ∧ i ≤ m_) (hV : ∀ j : Int, 0 ≤ j → j < i → V 22 j = U 21 j) (hVf : ∀ (c_ : Nat) (j : Int), ¬ c_ = 22 → V c_ j = us U 63 (wmv (opl (bgv (fun z_ => sa (12 * x + z_)) n_.toNat) kd b_) (ost kd r_ g_) (U 21) m_.toNat) c_ j) (H : Heap) (locs : List Loc), In (KM G) s s.heap H locs (V, S.2) → ∀ ls : Array Slot, lv_has ls 6 [(0, .ref (G.2.2 0)), (1, .int (iI x)), (2, .int (iI (mn + 1))), (3, .int (iI mo)), (4, .int (iI (wmv (opl (bgv (fun z_ => sa (12 * x + z_)) n_.toNat) kd b_) (ost kd r_ g_) (U 21) m_.toNat))), (5, .int (iI i))] → W p l e rm_X10_waysOf s m args below meth c H locs 0 0 (MQ below (QI (KM G) (po_X10_waysOf S x sa kd n_ m_ f b_ r_ g_)) args s 0 0 (KM G).2.2.2) (F0 m 93 ls []) := by
                        intro fu_
                        induction fu_ with
                        | zero => intro i V hm; exact absurd hm (by omega)
                        | succ fu_ ih_93 =>
                          intro i V hm_93 hi hV hVf H locs I ls hl
                          refine lv_iload X.1 X.2.1 dX10_waysOf_93 (lv_at hl 5 rfl) ?_
                          refine lv_aload_n X.1 X.2.1 dX10_waysOf_95 rfl (lv_at hl 0 rfl) ?_
                          refine gM_model_triedSize X I (v := m_) ((hVf 62 0 (by omega)).trans (by show (us U 63 (wmv (opl (bgv (fun z_ => sa (12 * x + z_)) n_.toNat) kd b_) (ost kd r_ g_) (U 21) m_.toNat)) 62 0 = _; rw [us_nc (by decide)]; exact ((hUf 62 0 (by omega) (by omega) (by omega)).trans e_m_))) tb_725 dX10_waysOf_96 ?_
                          refine rj_ge (tgt := 122) X (by omega) (by omega) dX10_waysOf_99 (by decide) (fun c21 => ?_) (fun c21 => ?_)
                          · skip
                            have q_fw : fw (rwt (opl (bgv (fun z_ => sa (12 * x + z_)) n_.toNat) kd b_) (ost kd r_ g_)) (aft (alS (fun z_ => sa (12 * x + z_)) kd f) n_ (lst (U 21) m_.toNat 0) 0) (mn + 1) (wmv (opl (bgv (fun z_ => sa (12 * x + z_)) n_.toNat) kd b_) (ost kd r_ g_) (U 21) m_.toNat) (lst (U 21) m_.toNat 0) = (resS (fun z_ => sa (12 * x + z_)) f kd b_ r_ g_ n_ m_) := by
                              rw [fw_take (by assumption) (by rw [rwt_wmv]; omega), rwt_wmv] at hz2; exact hz2
                            have q_br : mn + 1 = 0 ∨ lst (V 22) m_.toNat 0 = (lst (U 21) m_.toNat 0) := Or.inr (lst_congr _ _ (fun j a b => hV j a (by omega)))
                            have q_bw : V 63 0 = (wmv (opl (bgv (fun z_ => sa (12 * x + z_)) n_.toNat) kd b_) (ost kd r_ g_) (U 21) m_.toNat) := (hVf 63 0 (by decide)).trans us_eq
                            have q_21 : ∀ j : Int, V 21 j = U 21 j := fun j => (hVf 21 j (by decide)).trans (us_nc (by decide))
                            have q_uf : ∀ (c_ : Nat) (i : Int), ¬ c_ = 21 → ¬ c_ = 22 → ¬ c_ = 63 → V c_ i = S.1 c_ i := fun c_ i h1 h2 h3 => ((hVf c_ i h2).trans (us_nc h3)).trans (hUf c_ i h1 h2 h3)
                            have q_rg : -2000 ≤ (wmv (opl (bgv (fun z_ => sa (12 * x + z_)) n_.toNat) kd b_) (ost kd r_ g_) (U 21) m_.toNat) ∧ (wmv (opl (bgv (fun z_ => sa (12 * x + z_)) n_.toNat) kd b_) (ost kd r_ g_) (U 21) m_.toNat) ≤ 2000 := by omega
                            refine lv_aload_n X.1 X.2.1 dX10_waysOf_122 rfl (lv_at hl 0 rfl) ?_
                            refine lv_aload_n X.1 X.2.1 dX10_waysOf_123 rfl (lv_at hl 0 rfl) ?_
                            refine gM_model_sizes X I tb_698 dX10_waysOf_124 ?_
                            refine lv_iload_n X.1 X.2.1 dX10_waysOf_127 rfl (lv_at hl 1 rfl) ?_
                            refine aM_sizes X I (v := n_) ((hVf 3 x (by omega)).trans (by show (us U 63 (wmv (opl (bgv (fun z_ => sa (12 * x + z_)) n_.toNat) kd b_) (ost kd r_ g_) (U 21) m_.toNat)) 3 x = _; rw [us_nc (by decide)]; exact ((hUf 3 x (by omega) (by omega) (by omega)).trans e_n_))) (by omega) dX10_waysOf_128 ?_
                            refine cl_i I (runV (As := [.int (iI n_)]) (rest := []) X (k_X10_goesOn l G (V, S.2)  n_ m_ (U 21) ((hVf 62 0 (by omega)).trans (by show (us U 63 (wmv (opl (bgv (fun z_ => sa (12 * x + z_)) n_.toNat) kd b_) (ost kd r_ g_) (U 21) m_.toNat)) 62 0 = _; rw [us_nc (by decide)]; exact ((hUf 62 0 (by omega) (by omega) (by omega)).trans e_m_))) (fun i_ => ((hVf 21 i_ (by omega)).trans (by show (us U 63 (wmv (opl (bgv (fun z_ => sa (12 * x + z_)) n_.toNat) kd b_) (ost kd r_ g_) (U 21) m_.toNat)) 21 i_ = _; rw [us_nc (by decide)]))) (by omega) (by omega) (fun j a b => by have := hrow j a b; omega)) (gdC tb_955 (gdC tb_957 (gdC tb_27 (gdC tb_48 (gdC tb_958 gdB))))) ⟨ok_X10_goesOn, ⟨Nat.le_of_ble_eq_true rfl, Nat.le_of_ble_eq_true rfl⟩, rfl, rfl⟩ (PreV.of (C := RX10) (T := TX10) (N := 41) I (atM_model) rfl) rfl hl.1 rfl (Nat.le_of_ble_eq_true rfl) dX10_waysOf_129 ⟨Nat.zero_le _, Nat.zero_le _⟩) (fun r22 S23 H locs q24 I => ?_)
                            rcases q24 with ⟨hA1, hA2, hA3⟩ | ⟨hB1, hB2, k0, hB3, hB4, hB5, hB6, hB7⟩
                            · rw [hA2] at I
                              rw [hA1]
                              have q_z : ((0 : Int) = 1 ∧ z - 1 = (frm (fun _ _ => true) n_ (lst (V 21) m_.toNat 0) 0).length ∧ fw (rwt (opl (bgv (fun z_ => sa (12 * x + z_)) n_.toNat) kd b_) (ost kd r_ g_)) (frm (alS (fun z_ => sa (12 * x + z_)) kd f) n_ (lst (V 21) m_.toNat 0) 0) (mn + 1) (wmv (opl (bgv (fun z_ => sa (12 * x + z_)) n_.toNat) kd b_) (ost kd r_ g_) (U 21) m_.toNat) (lst (U 21) m_.toNat 0) = (resS (fun z_ => sa (12 * x + z_)) f kd b_ r_ g_ n_ m_)) ∨ ((0 : Int) = 0 ∧ z - 1 = 0 ∧ ((mn + 1), (wmv (opl (bgv (fun z_ => sa (12 * x + z_)) n_.toNat) kd b_) (ost kd r_ g_) (U 21) m_.toNat), (lst (U 21) m_.toNat 0)) = (resS (fun z_ => sa (12 * x + z_)) f kd b_ r_ g_ n_ m_)) := by
                                rw [aft_last _ (m := m_) _ _ (by omega) (fun j a b => hA3 j a b)] at hz1 q_fw
                                exact Or.inr ⟨rfl, by rw [hz1]; rfl, q_fw⟩
                              have q_row : ∀ j : Int, 0 ≤ j → j < m_ → 0 ≤ V 21 j ∧ V 21 j ≤ n_ - m_ + j := fun j a b => by rw [q_21]; exact hrow j a b
                              refine lv_istore_n (lv' := [(3, .int (iI 0)), (0, .ref (G.2.2 0)), (1, .int (iI x)), (2, .int (iI (mn + 1))), (4, .int (iI (wmv (opl (bgv (fun z_ => sa (12 * x + z_)) n_.toNat) kd b_) (ost kd r_ g_) (U 21) m_.toNat))), (5, .int (iI i))]) X.1 X.2.1 dX10_waysOf_132 rfl hl (by decide) rfl (fun ls hl => ?_)
                              refine lv_goto (tgt := 48) X.1 X.2.1 dX10_waysOf_133 (by decide) ?_
                              exact ih_48 (z - 1) (mn + 1) 0 (wmv (opl (bgv (fun z_ => sa (12 * x + z_)) n_.toNat) kd b_) (ost kd r_ g_) (U 21) m_.toNat) (lst (U 21) m_.toNat 0) V (by omega) (q_z) (by omega) (q_rg) (q_row) (q_br) (q_bw) (q_uf) _ _ I ls (lv_sub hl [1, 2, 3, 0] rfl)
                            · obtain ⟨W1, W2⟩ := S23
                              dsimp only at hB2 hB6 hB7
                              subst hB2
                              rw [hB1]
                              have hle0 := (hrow k0 hB3.1 hB3.2).2
                              have q_z : ((1 : Int) = 1 ∧ z - 1 = (frm (fun _ _ => true) n_ (lst (W1 21) m_.toNat 0) 0).length ∧ fw (rwt (opl (bgv (fun z_ => sa (12 * x + z_)) n_.toNat) kd b_) (ost kd r_ g_)) (frm (alS (fun z_ => sa (12 * x + z_)) kd f) n_ (lst (W1 21) m_.toNat 0) 0) (mn + 1) (wmv (opl (bgv (fun z_ => sa (12 * x + z_)) n_.toNat) kd b_) (ost kd r_ g_) (U 21) m_.toNat) (lst (U 21) m_.toNat 0) = (resS (fun z_ => sa (12 * x + z_)) f kd b_ r_ g_ n_ m_)) ∨ ((1 : Int) = 0 ∧ z - 1 = 0 ∧ ((mn + 1), (wmv (opl (bgv (fun z_ => sa (12 * x + z_)) n_.toNat) kd b_) (ost kd r_ g_) (U 21) m_.toNat), (lst (U 21) m_.toNat 0)) = (resS (fun z_ => sa (12 * x + z_)) f kd b_ r_ g_ n_ m_)) := by
                                rw [aft_go _ (m := m_) (g := W1 21) hB4 hle0 hB3.2 hB5 hB6 _ _ (by omega) (by omega) (by omega)] at hz1 q_fw
                                exact Or.inl ⟨rfl, by omega, q_fw⟩
                              have q_row : ∀ j : Int, 0 ≤ j → j < m_ → 0 ≤ W1 21 j ∧ W1 21 j ≤ n_ - m_ + j := fun j a b => by
                                rw [hB6 j a b]
                                split
                                · exact hrow j a b
                                · have := hrow k0 hB3.1 hB3.2; omega
                              have q_br : (mn + 1) = 0 ∨ lst (W1 22) m_.toNat 0 = (lst (U 21) m_.toNat 0) := by
                                rw [show lst (W1 22) m_.toNat 0 = lst (V 22) m_.toNat 0 from lst_congr _ _ (fun j _ _ => hB7 22 j (by decide))]; exact q_br
                              have q_bw : W1 63 0 = (wmv (opl (bgv (fun z_ => sa (12 * x + z_)) n_.toNat) kd b_) (ost kd r_ g_) (U 21) m_.toNat) := (hB7 63 0 (by decide)).trans q_bw
                              have q_uf : ∀ (c_ : Nat) (i : Int), ¬ c_ = 21 → ¬ c_ = 22 → ¬ c_ = 63 → W1 c_ i = S.1 c_ i := fun c_ i h1 h2 h3 => (hB7 c_ i h1).trans (q_uf c_ i h1 h2 h3)
                              refine lv_istore_n (lv' := [(3, .int (iI 1)), (0, .ref (G.2.2 0)), (1, .int (iI x)), (2, .int (iI (mn + 1))), (4, .int (iI (wmv (opl (bgv (fun z_ => sa (12 * x + z_)) n_.toNat) kd b_) (ost kd r_ g_) (U 21) m_.toNat))), (5, .int (iI i))]) X.1 X.2.1 dX10_waysOf_132 rfl hl (by decide) rfl (fun ls hl => ?_)
                              refine lv_goto (tgt := 48) X.1 X.2.1 dX10_waysOf_133 (by decide) ?_
                              exact ih_48 (z - 1) (mn + 1) 1 (wmv (opl (bgv (fun z_ => sa (12 * x + z_)) n_.toNat) kd b_) (ost kd r_ g_) (U 21) m_.toNat) (lst (U 21) m_.toNat 0) W1 (by omega) (q_z) (by omega) (q_rg) (q_row) (q_br) (q_bw) (q_uf) _ _ I ls (lv_sub hl [1, 2, 3, 0] rfl)
                          · skip
                            refine lv_aload_n X.1 X.2.1 dX10_waysOf_102 rfl (lv_at hl 0 rfl) ?_
                            refine gM_model_bestAt X I tb_728 dX10_waysOf_103 ?_
                            refine lv_iload X.1 X.2.1 dX10_waysOf_106 (lv_at hl 5 rfl) ?_
                            refine lv_aload_n X.1 X.2.1 dX10_waysOf_108 rfl (lv_at hl 0 rfl) ?_
                            refine gM_model_at X I tb_727 dX10_waysOf_109 ?_
                            refine lv_iload X.1 X.2.1 dX10_waysOf_112 (lv_at hl 5 rfl) ?_
                            refine aM_at X I (v := (U 21 i)) ((hVf 21 i (by omega)).trans (by show (us U 63 (wmv (opl (bgv (fun z_ => sa (12 * x + z_)) n_.toNat) kd b_) (ost kd r_ g_) (U 21) m_.toNat)) 21 i = _; rw [us_nc (by decide)])) (by omega) dX10_waysOf_114 ?_
                            refine qM_bestAt X I (by omega) dX10_waysOf_115 (fun H locs I => ?_)
                            have I : In (KM G) s s.heap H locs ((ua V 22 i (U 21 i)), S.2) := I
                            refine ri_iinc X (k := 5) (v := (i + 1)) (lv' := [(5, .int (iI (i + 1))), (0, .ref (G.2.2 0)), (1, .int (iI x)), (2, .int (iI (mn + 1))), (3, .int (iI mo)), (4, .int (iI (wmv (opl (bgv (fun z_ => sa (12 * x + z_)) n_.toNat) kd b_) (ost kd r_ g_) (U 21) m_.toNat)))]) rfl dX10_waysOf_116 hl rfl (by decide) rfl (fun ls hl => ?_)
                            refine lv_goto (tgt := 93) X.1 X.2.1 dX10_waysOf_119 (by decide) ?_
                            exact ih_93 (i + 1) (ua V 22 i (U 21 i)) (by omega) (by omega) (fun j h1 h2 => by
      rw [ua_at]
      by_cases q : j = i
      · rw [if_pos ⟨rfl, q⟩, q]
      · rw [if_neg (by omega)]; exact hV j h1 (by omega)) (fun c_ j h => by rw [ua_nc h]; exact hVf c_ j h) _ _ I ls (lv_sub hl [1, 2, 3, 4, 5, 0] rfl)
                      exact lp_93 (7) 0 (us U 63 (wmv (opl (bgv (fun z_ => sa (12 * x + z_)) n_.toNat) kd b_) (ost kd r_ g_) (U 21) m_.toNat)) (by omega) (by omega) (fun j h1 h2 => absurd h2 (by omega)) (fun c_ j _ => rfl) _ _ I ls (lv_sub hl [3, 4, 2, 5, 1, 0] rfl)
                · rw [bI_f b7]
                  refine rz_eq (tgt := 122) X (by omega) dX10_waysOf_57 (by decide) (fun _ => ?_) (fun c25 => absurd c25 (fun q => q (by decide)))
                  have q_fw : fw (rwt (opl (bgv (fun z_ => sa (12 * x + z_)) n_.toNat) kd b_) (ost kd r_ g_)) (aft (alS (fun z_ => sa (12 * x + z_)) kd f) n_ (lst (U 21) m_.toNat 0) 0) mn bw br = (resS (fun z_ => sa (12 * x + z_)) f kd b_ r_ g_ n_ m_) := (fw_skip (by assumption)).symm.trans hz2
                  have q_br : mn = 0 ∨ lst (U 22) m_.toNat 0 = br := hbr
                  have q_bw : U 63 0 = bw := hbw
                  have q_21 : ∀ j : Int, U 21 j = U 21 j := fun _ => rfl
                  have q_uf := hUf
                  have q_rg := hbwr
                  refine lv_aload_n X.1 X.2.1 dX10_waysOf_122 rfl (lv_at hl 0 rfl) ?_
                  refine lv_aload_n X.1 X.2.1 dX10_waysOf_123 rfl (lv_at hl 0 rfl) ?_
                  refine gM_model_sizes X I tb_698 dX10_waysOf_124 ?_
                  refine lv_iload_n X.1 X.2.1 dX10_waysOf_127 rfl (lv_at hl 1 rfl) ?_
                  refine aM_sizes X I (v := n_) ((hUf 3 x (by omega) (by omega) (by omega)).trans e_n_) (by omega) dX10_waysOf_128 ?_
                  refine cl_i I (runV (As := [.int (iI n_)]) (rest := []) X (k_X10_goesOn l G (U, S.2)  n_ m_ (U 21) ((hUf 62 0 (by omega) (by omega) (by omega)).trans e_m_) (fun i_ => rfl) (by omega) (by omega) (fun j a b => by have := hrow j a b; omega)) (gdC tb_955 (gdC tb_957 (gdC tb_27 (gdC tb_48 (gdC tb_958 gdB))))) ⟨ok_X10_goesOn, ⟨Nat.le_of_ble_eq_true rfl, Nat.le_of_ble_eq_true rfl⟩, rfl, rfl⟩ (PreV.of (C := RX10) (T := TX10) (N := 41) I (atM_model) rfl) rfl hl.1 rfl (Nat.le_of_ble_eq_true rfl) dX10_waysOf_129 ⟨Nat.zero_le _, Nat.zero_le _⟩) (fun r26 S27 H locs q28 I => ?_)
                  rcases q28 with ⟨hA1, hA2, hA3⟩ | ⟨hB1, hB2, k0, hB3, hB4, hB5, hB6, hB7⟩
                  · rw [hA2] at I
                    rw [hA1]
                    have q_z : ((0 : Int) = 1 ∧ z - 1 = (frm (fun _ _ => true) n_ (lst (U 21) m_.toNat 0) 0).length ∧ fw (rwt (opl (bgv (fun z_ => sa (12 * x + z_)) n_.toNat) kd b_) (ost kd r_ g_)) (frm (alS (fun z_ => sa (12 * x + z_)) kd f) n_ (lst (U 21) m_.toNat 0) 0) mn bw br = (resS (fun z_ => sa (12 * x + z_)) f kd b_ r_ g_ n_ m_)) ∨ ((0 : Int) = 0 ∧ z - 1 = 0 ∧ (mn, bw, br) = (resS (fun z_ => sa (12 * x + z_)) f kd b_ r_ g_ n_ m_)) := by
                      rw [aft_last _ (m := m_) _ _ (by omega) (fun j a b => hA3 j a b)] at hz1 q_fw
                      exact Or.inr ⟨rfl, by rw [hz1]; rfl, q_fw⟩
                    have q_row : ∀ j : Int, 0 ≤ j → j < m_ → 0 ≤ U 21 j ∧ U 21 j ≤ n_ - m_ + j := fun j a b => by rw [q_21]; exact hrow j a b
                    refine lv_istore_n (lv' := [(3, .int (iI 0)), (0, .ref (G.2.2 0)), (1, .int (iI x)), (2, .int (iI mn))]) X.1 X.2.1 dX10_waysOf_132 rfl hl (by decide) rfl (fun ls hl => ?_)
                    refine lv_goto (tgt := 48) X.1 X.2.1 dX10_waysOf_133 (by decide) ?_
                    exact ih_48 (z - 1) mn 0 bw br U (by omega) (q_z) (by omega) (q_rg) (q_row) (q_br) (q_bw) (q_uf) _ _ I ls (lv_sub hl [1, 2, 3, 0] rfl)
                  · obtain ⟨W1, W2⟩ := S27
                    dsimp only at hB2 hB6 hB7
                    subst hB2
                    rw [hB1]
                    have hle0 := (hrow k0 hB3.1 hB3.2).2
                    have q_z : ((1 : Int) = 1 ∧ z - 1 = (frm (fun _ _ => true) n_ (lst (W1 21) m_.toNat 0) 0).length ∧ fw (rwt (opl (bgv (fun z_ => sa (12 * x + z_)) n_.toNat) kd b_) (ost kd r_ g_)) (frm (alS (fun z_ => sa (12 * x + z_)) kd f) n_ (lst (W1 21) m_.toNat 0) 0) mn bw br = (resS (fun z_ => sa (12 * x + z_)) f kd b_ r_ g_ n_ m_)) ∨ ((1 : Int) = 0 ∧ z - 1 = 0 ∧ (mn, bw, br) = (resS (fun z_ => sa (12 * x + z_)) f kd b_ r_ g_ n_ m_)) := by
                      rw [aft_go _ (m := m_) (g := W1 21) hB4 hle0 hB3.2 hB5 hB6 _ _ (by omega) (by omega) (by omega)] at hz1 q_fw
                      exact Or.inl ⟨rfl, by omega, q_fw⟩
                    have q_row : ∀ j : Int, 0 ≤ j → j < m_ → 0 ≤ W1 21 j ∧ W1 21 j ≤ n_ - m_ + j := fun j a b => by
                      rw [hB6 j a b]
                      split
                      · exact hrow j a b
                      · have := hrow k0 hB3.1 hB3.2; omega
                    have q_br : mn = 0 ∨ lst (W1 22) m_.toNat 0 = br := by
                      rw [show lst (W1 22) m_.toNat 0 = lst (U 22) m_.toNat 0 from lst_congr _ _ (fun j _ _ => hB7 22 j (by decide))]; exact q_br
                    have q_bw : W1 63 0 = bw := (hB7 63 0 (by decide)).trans q_bw
                    have q_uf : ∀ (c_ : Nat) (i : Int), ¬ c_ = 21 → ¬ c_ = 22 → ¬ c_ = 63 → W1 c_ i = S.1 c_ i := fun c_ i h1 h2 h3 => (hB7 c_ i h1).trans (q_uf c_ i h1 h2 h3)
                    refine lv_istore_n (lv' := [(3, .int (iI 1)), (0, .ref (G.2.2 0)), (1, .int (iI x)), (2, .int (iI mn))]) X.1 X.2.1 dX10_waysOf_132 rfl hl (by decide) rfl (fun ls hl => ?_)
                    refine lv_goto (tgt := 48) X.1 X.2.1 dX10_waysOf_133 (by decide) ?_
                    exact ih_48 (z - 1) mn 1 bw br W1 (by omega) (q_z) (by omega) (q_rg) (q_row) (q_br) (q_bw) (q_uf) _ _ I ls (lv_sub hl [1, 2, 3, 0] rfl)
          exact lp_48 (((wl (fun _ _ => true) n_.toNat m_.toNat 0 0).length + 1)) (wl (fun _ _ => true) n_.toNat m_.toNat 0 0).length 0 1 (-4) [] U (by omega) (hz0) (by have := wl_len (fun _ _ => true) n_.toNat m_.toNat 0 0; have h2 : 2 ^ n_.toNat ≤ 2 ^ 12 := Nat.pow_le_pow_right (by decide) (by omega); omega) (by omega) (fun j h1 h2 => by rw [hU j h1 (by omega)]; omega) (Or.inl rfl) ((hUf 63 0 (by decide)).trans us_eq) (fun c_ i h1 h2 h3 => (hUf c_ i h1).trans (us_nc h3)) _ _ I ls (lv_sub hl [2, 3, 1, 0] rfl)
        · skip
          refine lv_aload_n X.1 X.2.1 dX10_waysOf_31 rfl (lv_at hl 0 rfl) ?_
          refine gM_model_at X I tb_727 dX10_waysOf_32 ?_
          refine lv_iload_n X.1 X.2.1 dX10_waysOf_35 rfl (lv_at hl 2 rfl) ?_
          refine lv_iload_n X.1 X.2.1 dX10_waysOf_36 rfl (lv_at hl 2 rfl) ?_
          refine qM_at X I (by omega) dX10_waysOf_37 (fun H locs I => ?_)
          have I : In (KM G) s s.heap H locs ((ua U 21 k k), S.2) := I
          refine ri_iinc X (k := 2) (v := (k + 1)) (lv' := [(2, .int (iI (k + 1))), (0, .ref (G.2.2 0)), (1, .int (iI x))]) rfl dX10_waysOf_38 hl rfl (by decide) rfl (fun ls hl => ?_)
          refine lv_goto (tgt := 23) X.1 X.2.1 dX10_waysOf_41 (by decide) ?_
          exact ih_23 (k + 1) (ua U 21 k k) (by omega) (by omega) (fun i h1 h2 => by
      rw [ua_at]
      by_cases q : i = k
      · rw [if_pos ⟨rfl, q⟩, q]
      · rw [if_neg (by omega)]; exact hU i h1 (by omega)) (fun c_ i h => by rw [ua_nc h]; exact hUf c_ i h) _ _ I ls (lv_sub hl [1, 2, 0] rfl)
    exact lp_23 (7) 0 (us S.1 63 (-4)) (by omega) (by omega) (fun i h1 h2 => absurd h2 (by omega)) (fun c_ i _ => rfl) _ _ I ls (lv_sub hl [1, 2, 0] rfl)
  · skip
    refine ri_const X (v := 0) dX10_waysOf_19 ?_
    exact rt_i X hr hlk I rfl (by exact ⟨by rw [resS_few (by omega)], rfl, by rw [resS_few (by omega)]; show us S.1 63 (-4) 63 0 = -4; exact us_eq, fun z => absurd rfl z, by omega, by show -2000 ≤ us S.1 63 (-4) 63 0 ∧ us S.1 63 (-4) 63 0 ≤ 2000; rw [us_eq]; omega, fun c_ i _ _ h => us_nc h⟩) dX10_waysOf_20

theorem ok_X10_triesWord : yX10_triesWord.cls ≠ "java/lang/invoke/MethodHandle" ∧ yX10_triesWord.cls ≠ "java/lang/invoke/VarHandle" ∧ (parseMethodDescriptor yX10_triesWord.desc).map (fun d => d.parameters.length) = some 0 := ⟨by decide +kernel, by decide +kernel, by decide +kernel⟩
abbrev po_X10_triesWord (S : St)  (m_ : Int) (f : Int → Int) : St → Prop := fun S1 => S1.2 = S.2 ∧ S1.1 62 0 = m_ ∧ (∀ i : Int, 0 ≤ i → i < m_ → S1.1 20 i = f i) ∧ ∀ (c_ : Nat) (i : Int), ¬ c_ = 20 → ¬ c_ = 62 → S1.1 c_ i = S.1 c_ i
abbrev rm_X10_triesWord : Room := ({ frames := 0, cells := 0, slots := 0, locals := 0 } : Room)
set_option maxRecDepth 100000 in
set_option maxHeartbeats 4000000 in
theorem k_X10_triesWord (l : Launch) (G : Ge) (S : St)  (m_ : Int) (f : Int → Int) (e_m_ : S.1 53 0 = m_) (e_f : ∀ i : Int, S.1 12 i = f i) (hz : 0 ≤ m_ ∧ m_ ≤ 6) (hL : ∀ i : Int, 0 ≤ i → i < m_ → ((97 ≤ f i ∧ f i ≤ 122) ∨ (65 ≤ f i ∧ f i ≤ 90))) : Kv (KM G) l yX10_triesWord cX10_triesWord 2 rm_X10_triesWord [.ref (G.2.2 0)] S (po_X10_triesWord S m_ f) := by
  refine K_start (own := "NameSeekerModel") (by decide +kernel) rfl (Nat.le_of_ble_eq_true rfl) ?_
  intro p e s m args below meth c X hr hlk I ls hl
  have hl : lv_has ls 2 [(0, .ref (G.2.2 0))] := hl
  refine lv_aload_n X.1 X.2.1 dX10_triesWord_0 rfl (lv_at hl 0 rfl) ?_
  refine lv_aload_n X.1 X.2.1 dX10_triesWord_1 rfl (lv_at hl 0 rfl) ?_
  refine gM_model_wordSize X I (v := m_) e_m_ tb_708 dX10_triesWord_2 ?_
  refine pM_model_triedSize X I tb_725 dX10_triesWord_5 (fun H locs I => ?_)
  have I : In (KM G) s s.heap H locs ((us S.1 62 m_), S.2) := I
  refine ri_const X (v := 0) dX10_triesWord_8 ?_
  refine lv_istore_n (lv' := [(1, .int (iI 0)), (0, .ref (G.2.2 0))]) X.1 X.2.1 dX10_triesWord_9 rfl hl (by decide) rfl (fun ls hl => ?_)
  have lp_10 : ∀ (fu_ : Nat) (k : Int) (U : Nat → Int → Int), (6 - k).toNat < fu_ → ∀ (hk : 0 ≤ k ∧ k ≤ m_) (hU : ∀ i : Int, 0 ≤ i → i < k → U 20 i = f i) (hUf : ∀ (c_ : Nat) (i : Int), ¬ c_ = 20 → U c_ i = us S.1 62 m_ c_ i) (H : Heap) (locs : List Loc), In (KM G) s s.heap H locs (U, S.2) → ∀ ls : Array Slot, lv_has ls 2 [(0, .ref (G.2.2 0)), (1, .int (iI k))] → W p l e rm_X10_triesWord s m args below meth c H locs 0 0 (MQ below (QV (KM G) (po_X10_triesWord S m_ f)) args s 0 0 (KM G).2.2.2) (F0 m 10 ls []) := by
    intro fu_
    induction fu_ with
    | zero => intro k U hm; exact absurd hm (by omega)
    | succ fu_ ih_10 =>
      intro k U hm_10 hk hU hUf H locs I ls hl
      refine lv_iload_n X.1 X.2.1 dX10_triesWord_10 rfl (lv_at hl 1 rfl) ?_
      refine lv_aload_n X.1 X.2.1 dX10_triesWord_11 rfl (lv_at hl 0 rfl) ?_
      refine gM_model_wordSize X I (v := m_) ((hUf 53 0 (by omega)).trans (by show (us S.1 62 m_) 53 0 = _; rw [us_nc (by decide)]; exact e_m_)) tb_708 dX10_triesWord_12 ?_
      refine rj_ge (tgt := 36) X (by omega) (by omega) dX10_triesWord_15 (by decide) (fun c1 => ?_) (fun c1 => ?_)
      · skip
        exact rt_v X hr hlk I (by exact ⟨rfl, (hUf 62 0 (by decide)).trans us_eq, fun i a b => hU i a (by omega), fun c_ i h1 h2 => (hUf c_ i h1).trans (us_nc h2)⟩) dX10_triesWord_36
      · skip
        have hLk := hL k (by omega) (by omega)
        refine lv_aload_n X.1 X.2.1 dX10_triesWord_18 rfl (lv_at hl 0 rfl) ?_
        refine gM_model_tried X I tb_726 dX10_triesWord_19 ?_
        refine lv_iload_n X.1 X.2.1 dX10_triesWord_22 rfl (lv_at hl 1 rfl) ?_
        refine lv_aload_n X.1 X.2.1 dX10_triesWord_23 rfl (lv_at hl 0 rfl) ?_
        refine gM_model_wordRow X I tb_709 dX10_triesWord_24 ?_
        refine lv_iload_n X.1 X.2.1 dX10_triesWord_27 rfl (lv_at hl 1 rfl) ?_
        refine aM_wordRow X I (v := (f k)) ((hUf 12 k (by omega)).trans (by show (us S.1 62 m_) 12 k = _; rw [us_nc (by decide)]; exact (e_f k))) (by omega) dX10_triesWord_28 ?_
        refine qM_tried X I (by omega) dX10_triesWord_29 (fun H locs I => ?_)
        have I : In (KM G) s s.heap H locs ((ua U 20 k (f k)), S.2) := I
        refine ri_iinc X (k := 1) (v := (k + 1)) (lv' := [(1, .int (iI (k + 1))), (0, .ref (G.2.2 0))]) rfl dX10_triesWord_30 hl rfl (by decide) rfl (fun ls hl => ?_)
        refine lv_goto (tgt := 10) X.1 X.2.1 dX10_triesWord_33 (by decide) ?_
        exact ih_10 (k + 1) (ua U 20 k (f k)) (by omega) (by omega) (fun i h1 h2 => by
      rw [ua_at]
      by_cases q : i = k
      · rw [if_pos ⟨rfl, q⟩, q]
      · rw [if_neg (by omega)]; exact hU i h1 (by omega)) (fun c_ i h => by rw [ua_nc h]; exact hUf c_ i h) _ _ I ls (lv_sub hl [1, 0] rfl)
  exact lp_10 (7) 0 (us S.1 62 m_) (by omega) (by omega) (fun i h1 h2 => absurd h2 (by omega)) (fun c_ i _ => rfl) _ _ I ls (lv_sub hl [1, 0] rfl)
