theorem cdv_p {f : Int → Int} : ∀ n : Nat, (∀ i : Int, 0 ≤ i → i < n → ((97 ≤ f i ∧ f i ≤ 122) ∨ (65 ≤ f i ∧ f i ≤ 90))) → 0 ≤ cdv f n ∧ cdv f n < 53 ^ n
  | 0, _ => by rw [cdv]; omega
  | n + 1, h => by
    have h1 := cdv_p n (fun i a b => h i a (by omega))
    have h2 := h n (by omega) (by omega)
    have h3 := lnum_l (f n) h2
    rw [cdv, Int.pow_succ]
    generalize (53 : Int) ^ n = P at *
    split <;> omega
theorem cdv_r {f : Int → Int} (n : Nat) (hn : n ≤ 6) (h : ∀ i : Int, 0 ≤ i → i < n → ((97 ≤ f i ∧ f i ≤ 122) ∨ (65 ≤ f i ∧ f i ≤ 90))) : 0 ≤ cdv f n ∧ cdv f n < 22164361129 := by
  have h1 := cdv_p n h
  rcases (show n = 0 ∨ n = 1 ∨ n = 2 ∨ n = 3 ∨ n = 4 ∨ n = 5 ∨ n = 6 by omega) with rfl | rfl | rfl | rfl | rfl | rfl | rfl <;> simp at h1 ⊢ <;> omega
theorem cwv_r {sg f : Int → Int} {kd : Int} : ∀ n k : Nat, 0 ≤ cwv sg f kd n k ∧ cwv sg f kd n k ≤ 2 ^ n
  | 0, 0 => by rw [cwv]; omega
  | 0, k + 1 => by rw [cwv]; omega
  | n + 1, 0 => by
    rw [cwv, Int.pow_succ]
    have : (0 : Int) < 2 ^ n := Int.pow_pos (by decide)
    omega
  | n + 1, k + 1 => by
    have h1 := cwv_r (sg := sg) (f := f) (kd := kd) n (k + 1)
    have h2 := cwv_r (sg := sg) (f := f) (kd := kd) n k
    rw [cwv, Int.pow_succ]
    split <;> omega
theorem pow12 (n : Nat) (h : n ≤ 12) : (2 : Int) ^ n ≤ 4096 := by
  rcases (show n = 0 ∨ n = 1 ∨ n = 2 ∨ n = 3 ∨ n = 4 ∨ n = 5 ∨ n = 6 ∨ n = 7 ∨ n = 8 ∨ n = 9 ∨ n = 10 ∨ n = 11 ∨ n = 12 by omega) with rfl | rfl | rfl | rfl | rfl | rfl | rfl | rfl | rfl | rfl | rfl | rfl | rfl <;> decide
/-- the bits of the names that have it -/
noncomputable def psb (Pr : Int → Prop) : Nat → Int
  | 0 => 0
  | n + 1 => @ite Int (Pr n) (Classical.propDecidable _) (bor (psb Pr n) (pw n)) (psb Pr n)
theorem psb_y {Pr : Int → Prop} {n : Int} (hn : 0 ≤ n) (h : Pr n) : bor (psb Pr n.toNat) (pw n) = psb Pr (n + 1).toNat := by
  rw [show (n + 1).toNat = n.toNat + 1 by omega, psb, show ((n.toNat : Nat) : Int) = n by omega, if_pos h]
theorem psb_n {Pr : Int → Prop} {n : Int} (hn : 0 ≤ n) (h : ¬ Pr n) : psb Pr n.toNat = psb Pr (n + 1).toNat := by
  rw [show (n + 1).toNat = n.toNat + 1 by omega, psb, show ((n.toNat : Nat) : Int) = n by omega, if_neg h]
theorem psb_r (Pr : Int → Prop) : ∀ n : Nat, n ≤ 30 → 0 ≤ psb Pr n ∧ psb Pr n < 2147483648
  | 0, _ => by rw [psb]; omega
  | n + 1, h => by
    have h1 := psb_r Pr n (by omega)
    rw [psb]
    split
    · have h2 := pw_r (k := (n : Int)) (by omega)
      exact bor_r h1 (by omega)
    · exact h1
theorem wor_r {sg f : Int → Int} {kd bg b r g n m : Int} (hB : 0 ≤ b ∧ b ≤ 9) (hR : 0 ≤ r ∧ r ≤ 9) (hG : 0 ≤ g ∧ g ≤ 9) (hn : 0 ≤ n ∧ n ≤ 12) (hm : 0 ≤ m ∧ m ≤ 6) : -1000 ≤ wor sg f kd bg b r g n m ∧ wor sg f kd bg b r g n m ≤ 1000 := by
  unfold wor
  split
  · omega
  · have key : ∀ (k : Nat) (q gr bf : Int), 0 ≤ q → q + k ≤ n → -1000 ≤ gr ∧ gr ≤ 1000 → -1000 ≤ (gbf (fun x => (tlr sg f kd bg b r g n m (m - 1).toNat x).1) k q gr bf).1 ∧ (gbf (fun x => (tlr sg f kd bg b r g n m (m - 1).toNat x).1) k q gr bf).1 ≤ 1000 := by
      intro k
      induction k with
      | zero => intro q gr bf _ _ h; exact h
      | succ k ih =>
        intro q gr bf h0 h1 h
        rw [gbf]
        split
        · have := tlr_b hB hR hG hn (sg := sg) (f := f) (kd := kd) (bg := bg) (m := m) (m - 1).toNat q (by omega) h0 (by omega)
          exact ih _ _ _ (by omega) (by omega) (by omega)
        · exact ih _ _ _ (by omega) (by omega) h
    exact key n.toNat 0 (-4) (-1) (by omega) (by omega) (by omega)
/-- what a seeking asks of the numbers -/
def SI (F : Nat → Int → Int) : Prop := ((0 ≤ F 53 0 ∧ F 53 0 ≤ 9) ∧ (0 ≤ F 54 0 ∧ F 54 0 ≤ 9) ∧ (0 ≤ F 55 0 ∧ F 55 0 ≤ 9)) ∧ (0 ≤ F 58 0 ∧ F 58 0 ≤ 100000) ∧ ((0 ≤ F 8 0 ∧ F 8 0 ≤ 6) ∧ ∀ i : Int, 0 ≤ i → i < F 8 0 → ((97 ≤ F (16 + 0) i ∧ F (16 + 0) i ≤ 122) ∨ (65 ≤ F (16 + 0) i ∧ F (16 + 0) i ≤ 90))) ∧ (∀ q : Int, 0 ≤ q → q < 32 → (-100000 ≤ F 10 q ∧ F 10 q ≤ 100000) ∧ (0 ≤ F 11 q ∧ F 11 q < 1099511627776) ∧ (0 ≤ F 12 q ∧ F 12 q ≤ 100000) ∧ (-1000 ≤ F 13 q ∧ F 13 q ≤ 1000)) ∧ nxi F
/-- where a score lies -/
def plc (F : Nat → Int → Int) (j : Nat) (code : Int) : Int := ((31 * F 4 (j : Int) + 7 * code) + F 58 0) % 32
/-- a score is sought: what is known then, and the score -/
def skF (F : Nat → Int → Int) (j : Nat) (sc code : Int) : (Nat → Int → Int) × Int :=
  if F 10 (plc F j code) = F 4 (j : Int) ∧ F 11 (plc F j code) = code ∧ F 12 (plc F j code) = F 58 0 then (us F 61 (F 61 0 + 1), F 13 (plc F j code))
  else (ua (ua (ua (ua (us F 62 (F 62 0 + 1)) 10 (plc F j code) (F 4 (j : Int))) 11 (plc F j code) code) 12 (plc F j code) (F 58 0)) 13 (plc F j code) sc, sc)
theorem skF_hit {F : Nat → Int → Int} {j : Nat} {sc code : Int} (h : F 10 (((31 * F 4 (j : Int) + 7 * code) + F 58 0) % 32) = F 4 (j : Int) ∧ F 11 (((31 * F 4 (j : Int) + 7 * code) + F 58 0) % 32) = code ∧ F 12 (((31 * F 4 (j : Int) + 7 * code) + F 58 0) % 32) = F 58 0) : skF F j sc code = (us F 61 (F 61 0 + 1), F 13 (((31 * F 4 (j : Int) + 7 * code) + F 58 0) % 32)) := if_pos h
theorem skF_miss {F : Nat → Int → Int} {j : Nat} {sc code : Int} (h : ¬ (F 10 (((31 * F 4 (j : Int) + 7 * code) + F 58 0) % 32) = F 4 (j : Int) ∧ F 11 (((31 * F 4 (j : Int) + 7 * code) + F 58 0) % 32) = code ∧ F 12 (((31 * F 4 (j : Int) + 7 * code) + F 58 0) % 32) = F 58 0)) : skF F j sc code = (ua (ua (ua (ua (us F 62 (F 62 0 + 1)) 10 (((31 * F 4 (j : Int) + 7 * code) + F 58 0) % 32) (F 4 (j : Int))) 11 (((31 * F 4 (j : Int) + 7 * code) + F 58 0) % 32) code) 12 (((31 * F 4 (j : Int) + 7 * code) + F 58 0) % 32) (F 58 0)) 13 (((31 * F 4 (j : Int) + 7 * code) + F 58 0) % 32) sc, sc) := if_neg h
theorem ua_congr {F F2 : Nat → Int → Int} {c c2 : Nat} {i j v : Int} (h : F c2 j = F2 c2 j) : ua F c i v c2 j = ua F2 c i v c2 j := by rw [ua_at, ua_at, h]
theorem ua4_congr {F F2 : Nat → Int → Int} {c1 c2 c3 c4 c : Nat} {i1 i2 i3 i4 v1 v2 v3 v4 j : Int} (h : F c j = F2 c j) : ua (ua (ua (ua F c1 i1 v1) c2 i2 v2) c3 i3 v3) c4 i4 v4 c j = ua (ua (ua (ua F2 c1 i1 v1) c2 i2 v2) c3 i3 v3) c4 i4 v4 c j := ua_congr (ua_congr (ua_congr (ua_congr h)))
theorem nxi_us {F : Nat → Int → Int} {c : Nat} {v : Int} (hc : ¬ (40 ≤ c ∧ c < 46)) (h : nxi F) : nxi (us F c v) := fun k q h1 h2 h3 => by rw [us_nc (by omega)]; exact h k q h1 h2 h3
theorem nxi_ua {F : Nat → Int → Int} {c : Nat} {i v : Int} (hc : ¬ (40 ≤ c ∧ c < 46)) (h : nxi F) : nxi (ua F c i v) := fun k q h1 h2 h3 => by rw [ua_nc (by omega)]; exact h k q h1 h2 h3
theorem nxi_ua4 {F : Nat → Int → Int} {i1 v1 i2 v2 i3 v3 i4 v4 : Int} (h : nxi F) : nxi (ua (ua (ua (ua F 10 i1 v1) 11 i2 v2) 12 i3 v3) 13 i4 v4) := nxi_ua (by decide) (nxi_ua (by decide) (nxi_ua (by decide) (nxi_ua (by decide) h)))

theorem ok_X9_ways : yX9_ways.cls ≠ "java/lang/invoke/MethodHandle" ∧ yX9_ways.cls ≠ "java/lang/invoke/VarHandle" ∧ (parseMethodDescriptor yX9_ways.desc).map (fun d => d.parameters.length) = some 1 := ⟨by decide +kernel, by decide +kernel, by decide +kernel⟩
abbrev po_X9_ways (S : St)  (x : Int) : Int → St → Prop := fun r S1 => S1.2 = S.2 ∧ (∀ (c_ : Nat) (i : Int), ¬ c_ = 9 → S1.1 c_ i = S.1 c_ i) ∧ ((¬ (0 ≤ x ∧ x < S.1 51 0) ∧ r = -1) ∨ ((0 ≤ x ∧ x < S.1 51 0) ∧ r = cwv (S.1 (20 + S.2 x.toNat)) (S.1 (16 + 0)) (S.1 3 ((S.2 x.toNat : Nat) : Int)) (S.1 2 ((S.2 x.toNat : Nat) : Int)).toNat (S.1 8 0).toNat))
abbrev rm_X9_ways : Room := ({ frames := 4, cells := 0, slots := 0, locals := 87 } : Room)
set_option maxRecDepth 100000 in
set_option maxHeartbeats 4000000 in
theorem k_X9_ways (l : Launch) (G : Ge) (S : St)  (x : Int)  (hx : -2147483648 ≤ x ∧ x < 2147483648) (N_ : Int) (hI : CI S N_) : Ki (KC G) l yX9_ways cX9_ways 2 .int rm_X9_ways [.ref (G.2.2 0), .int (iI x)] S (po_X9_ways S x) := by
  refine K_start (own := "NameSeeker") (by decide +kernel) rfl (Nat.le_of_ble_eq_true rfl) ?_
  intro p e s m args below meth c X hr hlk I ls hl
  have hl : lv_has ls 2 [(0, .ref (G.2.2 0)), (1, .int (iI x))] := hl
  obtain ⟨ht, hc, hln, hsc, hcn, hpi, hinj, hnm, hwd, hkn, has, hnx⟩ := hI
  have hw0 : (0 ≤ S.1 8 0 ∧ S.1 8 0 ≤ 6) ∧ ∀ i : Int, 0 ≤ i → i < S.1 8 0 → ((97 ≤ S.1 (16 + 0) i ∧ S.1 (16 + 0) i ≤ 122) ∨ (65 ≤ S.1 (16 + 0) i ∧ S.1 (16 + 0) i ≤ 90)) := hwd 0 (by decide)
  refine lv_aload_n X.1 X.2.1 dX9_ways_0 rfl (lv_at hl 0 rfl) ?_
  refine gC_ns_lot X I tb_378 dX9_ways_1 ?_
  refine lv_iload_n X.1 X.2.1 dX9_ways_4 rfl (lv_at hl 1 rfl) ?_
  refine cl_i I (runV (As := [.int (iI x)]) (rest := []) X (k_X3_has l G S  x (S.1 51 0) rfl (by omega) (by omega)) (gdC tb_425 (gdC tb_426 (gdC tb_427 (gdC tb_16 (gdC tb_428 gdB))))) ⟨ok_X3_has, ⟨Nat.le_of_ble_eq_true rfl, Nat.le_of_ble_eq_true rfl⟩, rfl, rfl⟩ (PreV.of (C := RX3) (T := TX3) (N := 3) I (atC_lot) rfl) rfl hl.1 rfl (Nat.le_of_ble_eq_true rfl) dX9_ways_5 ⟨Nat.zero_le _, Nat.zero_le _⟩) (fun r1 S2 H locs q3 I => ?_)
  obtain ⟨e1_, e2_⟩ := q3
  rw [e2_] at I
  rw [e1_]
  clear e1_ e2_
  rcases Decidable.em ((0 ≤ x ∧ x < (S.1 51 0))) with b4 | b4
  · rw [bI_t b4]
    refine rz_eq (tgt := 34) X (by omega) dX9_ways_8 (by decide) (fun c5 => absurd c5 (by decide)) (fun _ => ?_)
    have hnx_ := hnm x (by omega) (by omega)
    obtain ⟨hn1, hn2, hn3, hn4, hn5, hn6, hn7⟩ := hnx_
    refine lv_aload_n X.1 X.2.1 dX9_ways_11 rfl (lv_at hl 0 rfl) ?_
    refine gC_ns_laying X I tb_383 dX9_ways_12 ?_
    refine lv_aload_n X.1 X.2.1 dX9_ways_15 rfl (lv_at hl 0 rfl) ?_
    refine gC_ns_lot X I tb_378 dX9_ways_16 ?_
    refine gC_lot_names X I tb_99 dX9_ways_19 ?_
    refine lv_iload_n X.1 X.2.1 dX9_ways_22 rfl (lv_at hl 1 rfl) ?_
    refine aC_names X I (by omega) dX9_ways_23 ?_
    refine lv_aload_n X.1 X.2.1 dX9_ways_24 rfl (lv_at hl 0 rfl) ?_
    refine gC_ns_typed X I tb_380 dX9_ways_25 ?_
    refine cl_i I (runV (As := [.ref (G.2.2 (41 + 2 * S.2 x.toNat)), .ref (G.2.2 (6 + 2 * 0))]) (rest := []) X (k_X2_countWays l G S ((S.2 x.toNat)) (0) (S.1 2 (((S.2 x.toNat) : Nat) : Int)) (S.1 3 (((S.2 x.toNat) : Nat) : Int)) (S.1 (20 + (S.2 x.toNat))) (S.1 8 0) (S.1 (16 + 0)) rfl rfl (fun i_ => rfl) rfl (fun i_ => rfl) (hpi _ (by omega)) (by omega) hn2 (by omega) hw0.1 hn7 hw0.2) (gdC tb_462 (gdC tb_463 (gdC tb_464 (gdC tb_20 (gdC tb_465 gdB))))) ⟨ok_X2_countWays, ⟨Nat.le_of_ble_eq_true rfl, Nat.le_of_ble_eq_true rfl⟩, rfl, rfl⟩ (PreV.of (C := RX2) (T := TX2) (N := 4) I (atC_laying) rfl) rfl hl.1 rfl (Nat.le_of_ble_eq_true rfl) dX9_ways_28 ⟨Nat.zero_le _, Nat.zero_le _⟩) (fun r6 S7 H locs q8 I => ?_)
    obtain ⟨hA2, hAf, e1_⟩ := q8
    rw [e1_]
    have hcw := cwv_r (sg := (S.1 (20 + (S.2 x.toNat)))) (f := (S.1 (16 + 0))) (kd := (S.1 3 (((S.2 x.toNat) : Nat) : Int))) ((S.1 2 (((S.2 x.toNat) : Nat) : Int))).toNat ((S.1 8 0)).toNat
    have hcw2 := pow12 ((S.1 2 (((S.2 x.toNat) : Nat) : Int))).toNat (by omega)
    obtain ⟨V1, V2⟩ := S7
    dsimp only at hA2 hAf
    subst hA2
    refine lv_goto (tgt := 35) X.1 X.2.1 dX9_ways_31 (by decide) ?_
    exact rt_i X hr hlk I rfl (by first | exact ⟨rfl, fun _ _ _ => rfl, Or.inl ⟨by assumption, rfl⟩⟩ | exact ⟨rfl, hAf, Or.inr ⟨by assumption, rfl⟩⟩) dX9_ways_35
  · rw [bI_f b4]
    refine rz_eq (tgt := 34) X (by omega) dX9_ways_8 (by decide) (fun _ => ?_) (fun c9 => absurd c9 (fun q => q (by decide)))
    refine ri_const X (v := (-1)) dX9_ways_34 ?_
    exact rt_i X hr hlk I rfl (by first | exact ⟨rfl, fun _ _ _ => rfl, Or.inl ⟨by assumption, rfl⟩⟩ | exact ⟨rfl, hAf, Or.inr ⟨by assumption, rfl⟩⟩) dX9_ways_35

theorem ok_X9_passes : yX9_passes.cls ≠ "java/lang/invoke/MethodHandle" ∧ yX9_passes.cls ≠ "java/lang/invoke/VarHandle" ∧ (parseMethodDescriptor yX9_passes.desc).map (fun d => d.parameters.length) = some 1 := ⟨by decide +kernel, by decide +kernel, by decide +kernel⟩
abbrev po_X9_passes (S : St)  (x : Int) : Int → St → Prop := fun r S1 => S1.2 = S.2 ∧ (∀ (c_ : Nat) (i : Int), ¬ c_ = 9 → S1.1 c_ i = S.1 c_ i) ∧ ((¬ (x = 0 ∨ x = 1) ∧ r = -1) ∨ (x = 0 ∧ r = psb (fun n => bandn (wlb (S.1 (16 + 0)) (S.1 8 0).toNat) (S.1 7 ((S.2 n.toNat : Nat) : Int)) = 0) (S.1 51 0).toNat) ∨ (x = 1 ∧ r = psb (fun n => 0 < cwv (S.1 (20 + S.2 n.toNat)) (S.1 (16 + 0)) (S.1 3 ((S.2 n.toNat : Nat) : Int)) (S.1 2 ((S.2 n.toNat : Nat) : Int)).toNat (S.1 8 0).toNat) (S.1 51 0).toNat))
abbrev rm_X9_passes : Room := ({ frames := 4, cells := 0, slots := 0, locals := 87 } : Room)
set_option maxRecDepth 100000 in
set_option maxHeartbeats 4000000 in
theorem k_X9_passes (l : Launch) (G : Ge) (S : St)  (x : Int)  (hx : -2147483648 ≤ x ∧ x < 2147483648) (N_ : Int) (hI : CI S N_) : Ki (KC G) l yX9_passes cX9_passes 5 .int rm_X9_passes [.ref (G.2.2 0), .int (iI x)] S (po_X9_passes S x) := by
  refine K_start (own := "NameSeeker") (by decide +kernel) rfl (Nat.le_of_ble_eq_true rfl) ?_
  intro p e s m args below meth c X hr hlk I ls hl
  have hl : lv_has ls 5 [(0, .ref (G.2.2 0)), (1, .int (iI x))] := hl
  obtain ⟨ht, hc, hln, hsc, hcn, hpi, hinj, hnm, hwd, hkn, has, hnx⟩ := hI
  have hw0 : (0 ≤ S.1 8 0 ∧ S.1 8 0 ≤ 6) ∧ ∀ i : Int, 0 ≤ i → i < S.1 8 0 → ((97 ≤ S.1 (16 + 0) i ∧ S.1 (16 + 0) i ≤ 122) ∨ (65 ≤ S.1 (16 + 0) i ∧ S.1 (16 + 0) i ≤ 90)) := hwd 0 (by decide)
  refine lv_iload_n X.1 X.2.1 dX9_passes_0 rfl (lv_at hl 1 rfl) ?_
  refine rz_eq (tgt := 11) X (by omega) dX9_passes_1 (by decide) (fun c1 => ?_) (fun c1 => ?_)
  · skip
    refine ri_const X (v := 0) dX9_passes_11 ?_
    refine lv_istore_n (lv' := [(2, .int (iI 0)), (0, .ref (G.2.2 0)), (1, .int (iI x))]) X.1 X.2.1 dX9_passes_12 rfl hl (by decide) rfl (fun ls hl => ?_)
    refine ri_const X (v := 0) dX9_passes_13 ?_
    refine lv_istore_n (lv' := [(3, .int (iI 0)), (2, .int (iI 0)), (0, .ref (G.2.2 0)), (1, .int (iI x))]) X.1 X.2.1 dX9_passes_14 rfl hl (by decide) rfl (fun ls hl => ?_)
    have lp_15 : ∀ (fu_ : Nat) (n : Int) (b : Int) (U : Nat → Int → Int), (8 - n).toNat < fu_ → ∀ (hn : 0 ≤ n ∧ n ≤ S.1 51 0) (hx01 : x = 0 ∨ x = 1) (hfr : ∀ (c_ : Nat) (i : Int), ¬ c_ = 9 → U c_ i = S.1 c_ i) (hb : b = (if x = 0 then psb (fun n => bandn (wlb (S.1 (16 + 0)) (S.1 8 0).toNat) (S.1 7 ((S.2 n.toNat : Nat) : Int)) = 0) n.toNat else psb (fun n => 0 < cwv (S.1 (20 + S.2 n.toNat)) (S.1 (16 + 0)) (S.1 3 ((S.2 n.toNat : Nat) : Int)) (S.1 2 ((S.2 n.toNat : Nat) : Int)).toNat (S.1 8 0).toNat) n.toNat)) (hbb : 0 ≤ b ∧ b < 2147483648) (H : Heap) (locs : List Loc), In (KC G) s s.heap H locs (U, S.2) → ∀ ls : Array Slot, lv_has ls 5 [(0, .ref (G.2.2 0)), (1, .int (iI x)), (2, .int (iI b)), (3, .int (iI n))] → W p l e rm_X9_passes s m args below meth c H locs 0 0 (MQ below (QI (KC G) (po_X9_passes S x)) args s 0 0 (KC G).2.2.2) (F0 m 15 ls []) := by
      intro fu_
      induction fu_ with
      | zero => intro n b U hm; exact absurd hm (by omega)
      | succ fu_ ih_15 =>
        intro n b U hm_15 hn hx01 hfr hb hbb H locs I ls hl
        refine lv_iload_n X.1 X.2.1 dX9_passes_15 rfl (lv_at hl 3 rfl) ?_
        refine lv_aload_n X.1 X.2.1 dX9_passes_16 rfl (lv_at hl 0 rfl) ?_
        refine gC_ns_lot X I tb_378 dX9_passes_17 ?_
        refine gC_lot_size X I (v := (S.1 51 0)) (hfr 51 0 (by decide)) tb_102 dX9_passes_20 ?_
        refine rj_ge (tgt := 84) X (by omega) (by omega) dX9_passes_23 (by decide) (fun c2 => ?_) (fun c2 => ?_)
        · skip
          refine lv_iload_n X.1 X.2.1 dX9_passes_84 rfl (lv_at hl 2 rfl) ?_
          exact rt_i X hr hlk I rfl (by exact ⟨rfl, hfr, by rw [show (S.1 51 0).toNat = n.toNat by omega]; rcases hx01 with h | h; exact Or.inr (Or.inl ⟨h, by rw [hb, if_pos h]⟩); exact Or.inr (Or.inr ⟨h, by rw [hb, if_neg (by omega)]⟩)⟩) dX9_passes_85
        · skip
          have hnx_ := hnm n (by omega) (by omega)
          obtain ⟨hn1, hn2, hn3, hn4, hn5, hn6, hn7⟩ := hnx_
          have hbr := psb_r (fun n => bandn (wlb (S.1 (16 + 0)) (S.1 8 0).toNat) (S.1 7 ((S.2 n.toNat : Nat) : Int)) = 0) n.toNat (by omega)
          have hbr2 := psb_r (fun n => 0 < cwv (S.1 (20 + S.2 n.toNat)) (S.1 (16 + 0)) (S.1 3 ((S.2 n.toNat : Nat) : Int)) (S.1 2 ((S.2 n.toNat : Nat) : Int)).toNat (S.1 8 0).toNat) n.toNat (by omega)
          refine lv_aload_n X.1 X.2.1 dX9_passes_26 rfl (lv_at hl 0 rfl) ?_
          refine gC_ns_lot X I tb_378 dX9_passes_27 ?_
          refine gC_lot_names X I tb_99 dX9_passes_30 ?_
          refine lv_iload_n X.1 X.2.1 dX9_passes_33 rfl (lv_at hl 3 rfl) ?_
          refine aC_names X I (by omega) dX9_passes_34 ?_
          refine lv_astore (lv' := [(4, .ref (G.2.2 (41 + 2 * S.2 n.toNat))), (0, .ref (G.2.2 0)), (1, .int (iI x)), (2, .int (iI b)), (3, .int (iI n))]) X.1 X.2.1 dX9_passes_35 hl (by decide) rfl (fun ls hl => ?_)
          refine lv_iload_n X.1 X.2.1 dX9_passes_37 rfl (lv_at hl 2 rfl) ?_
          refine rz_ne (tgt := 56) X (by omega) dX9_passes_38 (by decide) (fun c3 => ?_) (fun c3 => ?_)
          · skip
            refine lv_aload_n X.1 X.2.1 dX9_passes_56 rfl (lv_at hl 1 rfl) ?_
            refine gC_ns_laying X I tb_383 dX9_passes_57 ?_
            refine lv_aload X.1 X.2.1 dX9_passes_60 (lv_at hl 0 rfl) ?_
            refine lv_aload_n X.1 X.2.1 dX9_passes_62 rfl (lv_at hl 1 rfl) ?_
            refine gC_ns_typed X I tb_380 dX9_passes_63 ?_
            refine cl_i I (runV (As := [.ref (G.2.2 (41 + 2 * S.2 n.toNat)), .ref (G.2.2 (6 + 2 * 0))]) (rest := []) X (k_X2_countWays l G (U, S.2) ((S.2 n.toNat)) (0) (S.1 2 (((S.2 n.toNat) : Nat) : Int)) (S.1 3 (((S.2 n.toNat) : Nat) : Int)) (S.1 (20 + (S.2 n.toNat))) (S.1 8 0) (S.1 (16 + 0)) (hfr 2 (((S.2 n.toNat) : Nat) : Int) (by decide)) (hfr 3 (((S.2 n.toNat) : Nat) : Int) (by decide)) (fun i_ => (hfr (20 + (S.2 n.toNat)) i_ (by omega))) (hfr 8 0 (by decide)) (fun i_ => (hfr (16 + 0) i_ (by omega))) (hpi _ (by omega)) (by omega) hn2 (by omega) hw0.1 hn7 hw0.2) (gdC tb_462 (gdC tb_463 (gdC tb_464 (gdC tb_20 (gdC tb_465 gdB))))) ⟨ok_X2_countWays, ⟨Nat.le_of_ble_eq_true rfl, Nat.le_of_ble_eq_true rfl⟩, rfl, rfl⟩ (PreV.of (C := RX2) (T := TX2) (N := 4) I (atC_laying) rfl) rfl hl.1 rfl (Nat.le_of_ble_eq_true rfl) dX9_passes_66 ⟨Nat.zero_le _, Nat.zero_le _⟩) (fun r4 S5 H locs q6 I => ?_)
            obtain ⟨hA2, hAf, e1_⟩ := q6
            rw [e1_]
            have hcw := cwv_r (sg := (S.1 (20 + (S.2 n.toNat)))) (f := (S.1 (16 + 0))) (kd := (S.1 3 (((S.2 n.toNat) : Nat) : Int))) ((S.1 2 (((S.2 n.toNat) : Nat) : Int))).toNat ((S.1 8 0)).toNat
            have hcw2 := pow12 ((S.1 2 (((S.2 n.toNat) : Nat) : Int))).toNat (by omega)
            obtain ⟨V1, V2⟩ := S5
            dsimp only at hA2 hAf
            subst hA2
            refine rz_le (tgt := 78) X (by omega) dX9_passes_69 (by decide) (fun c7 => ?_) (fun c7 => ?_)
            · skip
              refine ri_iinc X (k := 4) (v := (n + 1)) (lv' := [(3, .int (iI (n + 1))), (4, .ref (G.2.2 (41 + 2 * S.2 n.toNat))), (0, .ref (G.2.2 0)), (1, .int (iI x)), (2, .int (iI b))]) rfl dX9_passes_78 hl rfl (by decide) rfl (fun ls hl => ?_)
              refine lv_goto (tgt := 15) X.1 X.2.1 dX9_passes_81 (by decide) ?_
              exact ih_15 (n + 1) b V1 (by omega) (by omega) (hx01) (fun c_ i h => by first | exact hfr c_ i h | exact (hAf c_ i h).trans (hfr c_ i h)) (by first | (rw [hb, if_pos (by omega), if_pos (by omega)]; first | exact psb_y (by omega) (by assumption) | exact psb_n (by omega) (by assumption)) | (rw [hb, if_neg (by omega), if_neg (by omega)]; first | exact psb_y (by omega) (by show 0 < _; omega) | exact psb_n (by omega) (by show ¬ 0 < _; omega))) (by omega) _ _ I ls (lv_sub hl [2, 3, 4, 0] rfl)
            · skip
              refine lv_iload_n X.1 X.2.1 dX9_passes_72 rfl (lv_at hl 3 rfl) ?_
              refine ri_const X (v := 1) dX9_passes_73 ?_
              refine lv_iload_n X.1 X.2.1 dX9_passes_74 rfl (lv_at hl 4 rfl) ?_
              refine ri_shl X (by omega) dX9_passes_75 ?_
              have t8 := pw_r (k := n) (by omega)
              refine ri_or X (by omega) (by omega) dX9_passes_76 ?_
              have t9 := bor_r (a := b) (b := (pw n)) (by omega) (by omega)
              refine lv_istore_n (lv' := [(2, .int (iI (bor b (pw n)))), (4, .ref (G.2.2 (41 + 2 * S.2 n.toNat))), (0, .ref (G.2.2 0)), (1, .int (iI x)), (3, .int (iI n))]) X.1 X.2.1 dX9_passes_77 rfl hl (by decide) rfl (fun ls hl => ?_)
              refine ri_iinc X (k := 4) (v := (n + 1)) (lv' := [(3, .int (iI (n + 1))), (2, .int (iI (bor b (pw n)))), (4, .ref (G.2.2 (41 + 2 * S.2 n.toNat))), (0, .ref (G.2.2 0)), (1, .int (iI x))]) rfl dX9_passes_78 hl rfl (by decide) rfl (fun ls hl => ?_)
              refine lv_goto (tgt := 15) X.1 X.2.1 dX9_passes_81 (by decide) ?_
              exact ih_15 (n + 1) (bor b (pw n)) V1 (by omega) (by omega) (hx01) (fun c_ i h => by first | exact hfr c_ i h | exact (hAf c_ i h).trans (hfr c_ i h)) (by first | (rw [hb, if_pos (by omega), if_pos (by omega)]; first | exact psb_y (by omega) (by assumption) | exact psb_n (by omega) (by assumption)) | (rw [hb, if_neg (by omega), if_neg (by omega)]; first | exact psb_y (by omega) (by show 0 < _; omega) | exact psb_n (by omega) (by show ¬ 0 < _; omega))) (by omega) _ _ I ls (lv_sub hl [3, 4, 1, 0] rfl)
          · skip
            refine lv_aload X.1 X.2.1 dX9_passes_41 (lv_at hl 0 rfl) ?_
            refine lv_aload_n X.1 X.2.1 dX9_passes_43 rfl (lv_at hl 1 rfl) ?_
            refine gC_ns_typed X I tb_380 dX9_passes_44 ?_
            refine cl_i I (runV (As := [.ref (G.2.2 (6 + 2 * 0))]) (rest := []) X (k_X4_hasAll l G (U, S.2) ((S.2 n.toNat)) (0) (S.1 8 0) (S.1 (16 + 0)) (S.1 7 (((S.2 n.toNat) : Nat) : Int)) (hfr 8 0 (by decide)) (fun i_ => (hfr (16 + 0) i_ (by omega))) (hfr 7 (((S.2 n.toNat) : Nat) : Int) (by decide)) (hpi _ (by omega)) hn6 (by omega) hw0.1 hw0.2) (gdC tb_453 (gdC tb_454 (gdC tb_455 (gdC tb_17 (gdC tb_456 gdB))))) ⟨ok_X4_hasAll, ⟨Nat.le_of_ble_eq_true rfl, Nat.le_of_ble_eq_true rfl⟩, rfl, rfl⟩ (PreV.of (C := RX4) (T := TX4) (N := 7) I (atC_name (j := (S.2 n.toNat)) (by first | omega | exact hpi _ (by omega))) rfl) rfl hl.1 rfl (Nat.le_of_ble_eq_true rfl) dX9_passes_47 ⟨Nat.zero_le _, Nat.zero_le _⟩) (fun r10 S11 H locs q12 I => ?_)
            obtain ⟨e1_, e2_⟩ := q12
            rw [e2_] at I
            rw [e1_]
            clear e1_ e2_
            rcases Decidable.em (bandn (wlb (S.1 (16 + 0)) ((S.1 8 0)).toNat) (S.1 7 (((S.2 n.toNat) : Nat) : Int)) = 0) with b13 | b13
            · rw [bI_t b13]
              refine rz_eq (tgt := 78) X (by omega) dX9_passes_50 (by decide) (fun c14 => absurd c14 (by decide)) (fun _ => ?_)
              refine lv_goto (tgt := 72) X.1 X.2.1 dX9_passes_53 (by decide) ?_
              refine lv_iload_n X.1 X.2.1 dX9_passes_72 rfl (lv_at hl 3 rfl) ?_
              refine ri_const X (v := 1) dX9_passes_73 ?_
              refine lv_iload_n X.1 X.2.1 dX9_passes_74 rfl (lv_at hl 4 rfl) ?_
              refine ri_shl X (by omega) dX9_passes_75 ?_
              have t15 := pw_r (k := n) (by omega)
              refine ri_or X (by omega) (by omega) dX9_passes_76 ?_
              have t16 := bor_r (a := b) (b := (pw n)) (by omega) (by omega)
              refine lv_istore_n (lv' := [(2, .int (iI (bor b (pw n)))), (4, .ref (G.2.2 (41 + 2 * S.2 n.toNat))), (0, .ref (G.2.2 0)), (1, .int (iI x)), (3, .int (iI n))]) X.1 X.2.1 dX9_passes_77 rfl hl (by decide) rfl (fun ls hl => ?_)
              refine ri_iinc X (k := 4) (v := (n + 1)) (lv' := [(3, .int (iI (n + 1))), (2, .int (iI (bor b (pw n)))), (4, .ref (G.2.2 (41 + 2 * S.2 n.toNat))), (0, .ref (G.2.2 0)), (1, .int (iI x))]) rfl dX9_passes_78 hl rfl (by decide) rfl (fun ls hl => ?_)
              refine lv_goto (tgt := 15) X.1 X.2.1 dX9_passes_81 (by decide) ?_
              exact ih_15 (n + 1) (bor b (pw n)) U (by omega) (by omega) (hx01) (fun c_ i h => by first | exact hfr c_ i h | exact (hAf c_ i h).trans (hfr c_ i h)) (by first | (rw [hb, if_pos (by omega), if_pos (by omega)]; first | exact psb_y (by omega) (by assumption) | exact psb_n (by omega) (by assumption)) | (rw [hb, if_neg (by omega), if_neg (by omega)]; first | exact psb_y (by omega) (by show 0 < _; omega) | exact psb_n (by omega) (by show ¬ 0 < _; omega))) (by omega) _ _ I ls (lv_sub hl [3, 4, 1, 0] rfl)
            · rw [bI_f b13]
              refine rz_eq (tgt := 78) X (by omega) dX9_passes_50 (by decide) (fun _ => ?_) (fun c17 => absurd c17 (fun q => q (by decide)))
              refine ri_iinc X (k := 4) (v := (n + 1)) (lv' := [(3, .int (iI (n + 1))), (4, .ref (G.2.2 (41 + 2 * S.2 n.toNat))), (0, .ref (G.2.2 0)), (1, .int (iI x)), (2, .int (iI b))]) rfl dX9_passes_78 hl rfl (by decide) rfl (fun ls hl => ?_)
              refine lv_goto (tgt := 15) X.1 X.2.1 dX9_passes_81 (by decide) ?_
              exact ih_15 (n + 1) b U (by omega) (by omega) (hx01) (fun c_ i h => by first | exact hfr c_ i h | exact (hAf c_ i h).trans (hfr c_ i h)) (by first | (rw [hb, if_pos (by omega), if_pos (by omega)]; first | exact psb_y (by omega) (by assumption) | exact psb_n (by omega) (by assumption)) | (rw [hb, if_neg (by omega), if_neg (by omega)]; first | exact psb_y (by omega) (by show 0 < _; omega) | exact psb_n (by omega) (by show ¬ 0 < _; omega))) (by omega) _ _ I ls (lv_sub hl [2, 3, 4, 0] rfl)
    exact lp_15 (9) 0 0 S.1 (by omega) (by omega) (by omega) (fun _ _ _ => rfl) (by split <;> rfl) (by omega) _ _ I ls (lv_sub hl [2, 3, 1, 0] rfl)
  · skip
    refine lv_iload_n X.1 X.2.1 dX9_passes_4 rfl (lv_at hl 1 rfl) ?_
    refine ri_const X (v := 1) dX9_passes_5 ?_
    refine rj_eq (tgt := 11) X (by omega) (by omega) dX9_passes_6 (by decide) (fun c18 => ?_) (fun c18 => ?_)
    · skip
      refine ri_const X (v := 0) dX9_passes_11 ?_
      refine lv_istore_n (lv' := [(2, .int (iI 0)), (0, .ref (G.2.2 0)), (1, .int (iI x))]) X.1 X.2.1 dX9_passes_12 rfl hl (by decide) rfl (fun ls hl => ?_)
      refine ri_const X (v := 0) dX9_passes_13 ?_
      refine lv_istore_n (lv' := [(3, .int (iI 0)), (2, .int (iI 0)), (0, .ref (G.2.2 0)), (1, .int (iI x))]) X.1 X.2.1 dX9_passes_14 rfl hl (by decide) rfl (fun ls hl => ?_)
      have lp_15 : ∀ (fu_ : Nat) (n : Int) (b : Int) (U : Nat → Int → Int), (8 - n).toNat < fu_ → ∀ (hn : 0 ≤ n ∧ n ≤ S.1 51 0) (hx01 : x = 0 ∨ x = 1) (hfr : ∀ (c_ : Nat) (i : Int), ¬ c_ = 9 → U c_ i = S.1 c_ i) (hb : b = (if x = 0 then psb (fun n => bandn (wlb (S.1 (16 + 0)) (S.1 8 0).toNat) (S.1 7 ((S.2 n.toNat : Nat) : Int)) = 0) n.toNat else psb (fun n => 0 < cwv (S.1 (20 + S.2 n.toNat)) (S.1 (16 + 0)) (S.1 3 ((S.2 n.toNat : Nat) : Int)) (S.1 2 ((S.2 n.toNat : Nat) : Int)).toNat (S.1 8 0).toNat) n.toNat)) (hbb : 0 ≤ b ∧ b < 2147483648) (H : Heap) (locs : List Loc), In (KC G) s s.heap H locs (U, S.2) → ∀ ls : Array Slot, lv_has ls 5 [(0, .ref (G.2.2 0)), (1, .int (iI x)), (2, .int (iI b)), (3, .int (iI n))] → W p l e rm_X9_passes s m args below meth c H locs 0 0 (MQ below (QI (KC G) (po_X9_passes S x)) args s 0 0 (KC G).2.2.2) (F0 m 15 ls []) := by
        intro fu_
        induction fu_ with
        | zero => intro n b U hm; exact absurd hm (by omega)
        | succ fu_ ih_15 =>
          intro n b U hm_15 hn hx01 hfr hb hbb H locs I ls hl
          refine lv_iload_n X.1 X.2.1 dX9_passes_15 rfl (lv_at hl 3 rfl) ?_
          refine lv_aload_n X.1 X.2.1 dX9_passes_16 rfl (lv_at hl 0 rfl) ?_
          refine gC_ns_lot X I tb_378 dX9_passes_17 ?_
          refine gC_lot_size X I (v := (S.1 51 0)) (hfr 51 0 (by decide)) tb_102 dX9_passes_20 ?_
          refine rj_ge (tgt := 84) X (by omega) (by omega) dX9_passes_23 (by decide) (fun c19 => ?_) (fun c19 => ?_)
          · skip
            refine lv_iload_n X.1 X.2.1 dX9_passes_84 rfl (lv_at hl 2 rfl) ?_
            exact rt_i X hr hlk I rfl (by exact ⟨rfl, hfr, by rw [show (S.1 51 0).toNat = n.toNat by omega]; rcases hx01 with h | h; exact Or.inr (Or.inl ⟨h, by rw [hb, if_pos h]⟩); exact Or.inr (Or.inr ⟨h, by rw [hb, if_neg (by omega)]⟩)⟩) dX9_passes_85
          · skip
            have hnx_ := hnm n (by omega) (by omega)
            obtain ⟨hn1, hn2, hn3, hn4, hn5, hn6, hn7⟩ := hnx_
            have hbr := psb_r (fun n => bandn (wlb (S.1 (16 + 0)) (S.1 8 0).toNat) (S.1 7 ((S.2 n.toNat : Nat) : Int)) = 0) n.toNat (by omega)
            have hbr2 := psb_r (fun n => 0 < cwv (S.1 (20 + S.2 n.toNat)) (S.1 (16 + 0)) (S.1 3 ((S.2 n.toNat : Nat) : Int)) (S.1 2 ((S.2 n.toNat : Nat) : Int)).toNat (S.1 8 0).toNat) n.toNat (by omega)
            refine lv_aload_n X.1 X.2.1 dX9_passes_26 rfl (lv_at hl 0 rfl) ?_
            refine gC_ns_lot X I tb_378 dX9_passes_27 ?_
            refine gC_lot_names X I tb_99 dX9_passes_30 ?_
            refine lv_iload_n X.1 X.2.1 dX9_passes_33 rfl (lv_at hl 3 rfl) ?_
            refine aC_names X I (by omega) dX9_passes_34 ?_
            refine lv_astore (lv' := [(4, .ref (G.2.2 (41 + 2 * S.2 n.toNat))), (0, .ref (G.2.2 0)), (1, .int (iI x)), (2, .int (iI b)), (3, .int (iI n))]) X.1 X.2.1 dX9_passes_35 hl (by decide) rfl (fun ls hl => ?_)
            refine lv_iload_n X.1 X.2.1 dX9_passes_37 rfl (lv_at hl 2 rfl) ?_
            refine rz_ne (tgt := 56) X (by omega) dX9_passes_38 (by decide) (fun c20 => ?_) (fun c20 => ?_)
            · skip
              refine lv_aload_n X.1 X.2.1 dX9_passes_56 rfl (lv_at hl 1 rfl) ?_
              refine gC_ns_laying X I tb_383 dX9_passes_57 ?_
              refine lv_aload X.1 X.2.1 dX9_passes_60 (lv_at hl 0 rfl) ?_
              refine lv_aload_n X.1 X.2.1 dX9_passes_62 rfl (lv_at hl 1 rfl) ?_
              refine gC_ns_typed X I tb_380 dX9_passes_63 ?_
              refine cl_i I (runV (As := [.ref (G.2.2 (41 + 2 * S.2 n.toNat)), .ref (G.2.2 (6 + 2 * 0))]) (rest := []) X (k_X2_countWays l G (U, S.2) ((S.2 n.toNat)) (0) (S.1 2 (((S.2 n.toNat) : Nat) : Int)) (S.1 3 (((S.2 n.toNat) : Nat) : Int)) (S.1 (20 + (S.2 n.toNat))) (S.1 8 0) (S.1 (16 + 0)) (hfr 2 (((S.2 n.toNat) : Nat) : Int) (by decide)) (hfr 3 (((S.2 n.toNat) : Nat) : Int) (by decide)) (fun i_ => (hfr (20 + (S.2 n.toNat)) i_ (by omega))) (hfr 8 0 (by decide)) (fun i_ => (hfr (16 + 0) i_ (by omega))) (hpi _ (by omega)) (by omega) hn2 (by omega) hw0.1 hn7 hw0.2) (gdC tb_462 (gdC tb_463 (gdC tb_464 (gdC tb_20 (gdC tb_465 gdB))))) ⟨ok_X2_countWays, ⟨Nat.le_of_ble_eq_true rfl, Nat.le_of_ble_eq_true rfl⟩, rfl, rfl⟩ (PreV.of (C := RX2) (T := TX2) (N := 4) I (atC_laying) rfl) rfl hl.1 rfl (Nat.le_of_ble_eq_true rfl) dX9_passes_66 ⟨Nat.zero_le _, Nat.zero_le _⟩) (fun r21 S22 H locs q23 I => ?_)
              obtain ⟨hA2, hAf, e1_⟩ := q23
              rw [e1_]
              have hcw := cwv_r (sg := (S.1 (20 + (S.2 n.toNat)))) (f := (S.1 (16 + 0))) (kd := (S.1 3 (((S.2 n.toNat) : Nat) : Int))) ((S.1 2 (((S.2 n.toNat) : Nat) : Int))).toNat ((S.1 8 0)).toNat
              have hcw2 := pow12 ((S.1 2 (((S.2 n.toNat) : Nat) : Int))).toNat (by omega)
              obtain ⟨V1, V2⟩ := S22
              dsimp only at hA2 hAf
              subst hA2
              refine rz_le (tgt := 78) X (by omega) dX9_passes_69 (by decide) (fun c24 => ?_) (fun c24 => ?_)
              · skip
                refine ri_iinc X (k := 4) (v := (n + 1)) (lv' := [(3, .int (iI (n + 1))), (4, .ref (G.2.2 (41 + 2 * S.2 n.toNat))), (0, .ref (G.2.2 0)), (1, .int (iI x)), (2, .int (iI b))]) rfl dX9_passes_78 hl rfl (by decide) rfl (fun ls hl => ?_)
                refine lv_goto (tgt := 15) X.1 X.2.1 dX9_passes_81 (by decide) ?_
                exact ih_15 (n + 1) b V1 (by omega) (by omega) (hx01) (fun c_ i h => by first | exact hfr c_ i h | exact (hAf c_ i h).trans (hfr c_ i h)) (by first | (rw [hb, if_pos (by omega), if_pos (by omega)]; first | exact psb_y (by omega) (by assumption) | exact psb_n (by omega) (by assumption)) | (rw [hb, if_neg (by omega), if_neg (by omega)]; first | exact psb_y (by omega) (by show 0 < _; omega) | exact psb_n (by omega) (by show ¬ 0 < _; omega))) (by omega) _ _ I ls (lv_sub hl [2, 3, 4, 0] rfl)
              · skip
                refine lv_iload_n X.1 X.2.1 dX9_passes_72 rfl (lv_at hl 3 rfl) ?_
                refine ri_const X (v := 1) dX9_passes_73 ?_
                refine lv_iload_n X.1 X.2.1 dX9_passes_74 rfl (lv_at hl 4 rfl) ?_
                refine ri_shl X (by omega) dX9_passes_75 ?_
                have t25 := pw_r (k := n) (by omega)
                refine ri_or X (by omega) (by omega) dX9_passes_76 ?_
                have t26 := bor_r (a := b) (b := (pw n)) (by omega) (by omega)
                refine lv_istore_n (lv' := [(2, .int (iI (bor b (pw n)))), (4, .ref (G.2.2 (41 + 2 * S.2 n.toNat))), (0, .ref (G.2.2 0)), (1, .int (iI x)), (3, .int (iI n))]) X.1 X.2.1 dX9_passes_77 rfl hl (by decide) rfl (fun ls hl => ?_)
                refine ri_iinc X (k := 4) (v := (n + 1)) (lv' := [(3, .int (iI (n + 1))), (2, .int (iI (bor b (pw n)))), (4, .ref (G.2.2 (41 + 2 * S.2 n.toNat))), (0, .ref (G.2.2 0)), (1, .int (iI x))]) rfl dX9_passes_78 hl rfl (by decide) rfl (fun ls hl => ?_)
                refine lv_goto (tgt := 15) X.1 X.2.1 dX9_passes_81 (by decide) ?_
                exact ih_15 (n + 1) (bor b (pw n)) V1 (by omega) (by omega) (hx01) (fun c_ i h => by first | exact hfr c_ i h | exact (hAf c_ i h).trans (hfr c_ i h)) (by first | (rw [hb, if_pos (by omega), if_pos (by omega)]; first | exact psb_y (by omega) (by assumption) | exact psb_n (by omega) (by assumption)) | (rw [hb, if_neg (by omega), if_neg (by omega)]; first | exact psb_y (by omega) (by show 0 < _; omega) | exact psb_n (by omega) (by show ¬ 0 < _; omega))) (by omega) _ _ I ls (lv_sub hl [3, 4, 1, 0] rfl)
            · skip
              refine lv_aload X.1 X.2.1 dX9_passes_41 (lv_at hl 0 rfl) ?_
              refine lv_aload_n X.1 X.2.1 dX9_passes_43 rfl (lv_at hl 1 rfl) ?_
              refine gC_ns_typed X I tb_380 dX9_passes_44 ?_
              refine cl_i I (runV (As := [.ref (G.2.2 (6 + 2 * 0))]) (rest := []) X (k_X4_hasAll l G (U, S.2) ((S.2 n.toNat)) (0) (S.1 8 0) (S.1 (16 + 0)) (S.1 7 (((S.2 n.toNat) : Nat) : Int)) (hfr 8 0 (by decide)) (fun i_ => (hfr (16 + 0) i_ (by omega))) (hfr 7 (((S.2 n.toNat) : Nat) : Int) (by decide)) (hpi _ (by omega)) hn6 (by omega) hw0.1 hw0.2) (gdC tb_453 (gdC tb_454 (gdC tb_455 (gdC tb_17 (gdC tb_456 gdB))))) ⟨ok_X4_hasAll, ⟨Nat.le_of_ble_eq_true rfl, Nat.le_of_ble_eq_true rfl⟩, rfl, rfl⟩ (PreV.of (C := RX4) (T := TX4) (N := 7) I (atC_name (j := (S.2 n.toNat)) (by first | omega | exact hpi _ (by omega))) rfl) rfl hl.1 rfl (Nat.le_of_ble_eq_true rfl) dX9_passes_47 ⟨Nat.zero_le _, Nat.zero_le _⟩) (fun r27 S28 H locs q29 I => ?_)
              obtain ⟨e1_, e2_⟩ := q29
              rw [e2_] at I
              rw [e1_]
              clear e1_ e2_
              rcases Decidable.em (bandn (wlb (S.1 (16 + 0)) ((S.1 8 0)).toNat) (S.1 7 (((S.2 n.toNat) : Nat) : Int)) = 0) with b30 | b30
              · rw [bI_t b30]
                refine rz_eq (tgt := 78) X (by omega) dX9_passes_50 (by decide) (fun c31 => absurd c31 (by decide)) (fun _ => ?_)
                refine lv_goto (tgt := 72) X.1 X.2.1 dX9_passes_53 (by decide) ?_
                refine lv_iload_n X.1 X.2.1 dX9_passes_72 rfl (lv_at hl 3 rfl) ?_
                refine ri_const X (v := 1) dX9_passes_73 ?_
                refine lv_iload_n X.1 X.2.1 dX9_passes_74 rfl (lv_at hl 4 rfl) ?_
                refine ri_shl X (by omega) dX9_passes_75 ?_
                have t32 := pw_r (k := n) (by omega)
                refine ri_or X (by omega) (by omega) dX9_passes_76 ?_
                have t33 := bor_r (a := b) (b := (pw n)) (by omega) (by omega)
                refine lv_istore_n (lv' := [(2, .int (iI (bor b (pw n)))), (4, .ref (G.2.2 (41 + 2 * S.2 n.toNat))), (0, .ref (G.2.2 0)), (1, .int (iI x)), (3, .int (iI n))]) X.1 X.2.1 dX9_passes_77 rfl hl (by decide) rfl (fun ls hl => ?_)
                refine ri_iinc X (k := 4) (v := (n + 1)) (lv' := [(3, .int (iI (n + 1))), (2, .int (iI (bor b (pw n)))), (4, .ref (G.2.2 (41 + 2 * S.2 n.toNat))), (0, .ref (G.2.2 0)), (1, .int (iI x))]) rfl dX9_passes_78 hl rfl (by decide) rfl (fun ls hl => ?_)
                refine lv_goto (tgt := 15) X.1 X.2.1 dX9_passes_81 (by decide) ?_
                exact ih_15 (n + 1) (bor b (pw n)) U (by omega) (by omega) (hx01) (fun c_ i h => by first | exact hfr c_ i h | exact (hAf c_ i h).trans (hfr c_ i h)) (by first | (rw [hb, if_pos (by omega), if_pos (by omega)]; first | exact psb_y (by omega) (by assumption) | exact psb_n (by omega) (by assumption)) | (rw [hb, if_neg (by omega), if_neg (by omega)]; first | exact psb_y (by omega) (by show 0 < _; omega) | exact psb_n (by omega) (by show ¬ 0 < _; omega))) (by omega) _ _ I ls (lv_sub hl [3, 4, 1, 0] rfl)
              · rw [bI_f b30]
                refine rz_eq (tgt := 78) X (by omega) dX9_passes_50 (by decide) (fun _ => ?_) (fun c34 => absurd c34 (fun q => q (by decide)))
                refine ri_iinc X (k := 4) (v := (n + 1)) (lv' := [(3, .int (iI (n + 1))), (4, .ref (G.2.2 (41 + 2 * S.2 n.toNat))), (0, .ref (G.2.2 0)), (1, .int (iI x)), (2, .int (iI b))]) rfl dX9_passes_78 hl rfl (by decide) rfl (fun ls hl => ?_)
                refine lv_goto (tgt := 15) X.1 X.2.1 dX9_passes_81 (by decide) ?_
                exact ih_15 (n + 1) b U (by omega) (by omega) (hx01) (fun c_ i h => by first | exact hfr c_ i h | exact (hAf c_ i h).trans (hfr c_ i h)) (by first | (rw [hb, if_pos (by omega), if_pos (by omega)]; first | exact psb_y (by omega) (by assumption) | exact psb_n (by omega) (by assumption)) | (rw [hb, if_neg (by omega), if_neg (by omega)]; first | exact psb_y (by omega) (by show 0 < _; omega) | exact psb_n (by omega) (by show ¬ 0 < _; omega))) (by omega) _ _ I ls (lv_sub hl [2, 3, 4, 0] rfl)
      exact lp_15 (9) 0 0 S.1 (by omega) (by omega) (by omega) (fun _ _ _ => rfl) (by split <;> rfl) (by omega) _ _ I ls (lv_sub hl [2, 3, 1, 0] rfl)
    · skip
      refine ri_const X (v := (-1)) dX9_passes_9 ?_
      exact rt_i X hr hlk I rfl (by exact ⟨rfl, fun _ _ _ => rfl, Or.inl ⟨by omega, rfl⟩⟩) dX9_passes_10

theorem ok_X9_count : yX9_count.cls ≠ "java/lang/invoke/MethodHandle" ∧ yX9_count.cls ≠ "java/lang/invoke/VarHandle" ∧ (parseMethodDescriptor yX9_count.desc).map (fun d => d.parameters.length) = some 1 := ⟨by decide +kernel, by decide +kernel, by decide +kernel⟩
abbrev po_X9_count (S : St)  (x : Int) : Int → St → Prop := fun r S1 => r = (if x = 0 then S.1 51 0 else if x = 1 then S.1 53 0 else if x = 2 then S.1 54 0 else if x = 3 then S.1 55 0 else if x = 4 then S.1 52 0 else if x = 5 then S.1 57 0 else if x = 6 then S.1 58 0 else if x = 7 then S.1 61 0 else if x = 8 then S.1 62 0 else if x = 9 then S.1 59 0 else if x = 10 then S.1 56 0 else if x = 11 then S.1 50 0 else if x = 12 then (cdv (S.1 (16 + 0)) (S.1 8 0).toNat) % 100003 else -1) ∧ S1 = S
abbrev rm_X9_count : Room := ({ frames := 3, cells := 0, slots := 0, locals := 64 } : Room)
set_option maxRecDepth 100000 in
set_option maxHeartbeats 4000000 in
theorem k_X9_count (l : Launch) (G : Ge) (S : St)  (x : Int)  (hx : -2147483648 ≤ x ∧ x < 2147483648) (N_ : Int) (hI : CI S N_) : Ki (KC G) l yX9_count cX9_count 2 .int rm_X9_count [.ref (G.2.2 0), .int (iI x)] S (po_X9_count S x) := by
  refine K_start (own := "NameSeeker") (by decide +kernel) rfl (Nat.le_of_ble_eq_true rfl) ?_
  intro p e s m args below meth c X hr hlk I ls hl
  have hl : lv_has ls 2 [(0, .ref (G.2.2 0)), (1, .int (iI x))] := hl
  obtain ⟨ht, hc, hln, hsc, hcn, hpi, hinj, hnm, hwd, hkn, has, hnx⟩ := hI
  have hw0 : (0 ≤ S.1 8 0 ∧ S.1 8 0 ≤ 6) ∧ ∀ i : Int, 0 ≤ i → i < S.1 8 0 → ((97 ≤ S.1 (16 + 0) i ∧ S.1 (16 + 0) i ≤ 122) ∨ (65 ≤ S.1 (16 + 0) i ∧ S.1 (16 + 0) i ≤ 90)) := hwd 0 (by decide)
  refine lv_iload_n X.1 X.2.1 dX9_count_0 rfl (lv_at hl 1 rfl) ?_
  rcases Decidable.em (x = 0) with c1 | c1
  · refine lv_tableIn (off := 67) (tgt := 68) X.1 X.2.1 dX9_count_1 (by rw [iI_t (by omega)]; omega) (by rw [iI_t (by omega)]; omega) (by rw [iI_t (by omega), c1]; rfl) (by decide) ?_
    refine lv_aload_n X.1 X.2.1 dX9_count_68 rfl (lv_at hl 0 rfl) ?_
    refine gC_ns_lot X I tb_378 dX9_count_69 ?_
    refine gC_lot_size X I (v := (S.1 51 0)) rfl tb_102 dX9_count_72 ?_
    exact rt_i X hr hlk I rfl (by refine ⟨?_, rfl⟩; first | (subst_vars; rfl) | (repeat rw [if_neg (by omega)])) dX9_count_75
  rcases Decidable.em (x = 1) with c2 | c2
  · refine lv_tableIn (off := 75) (tgt := 76) X.1 X.2.1 dX9_count_1 (by rw [iI_t (by omega)]; omega) (by rw [iI_t (by omega)]; omega) (by rw [iI_t (by omega), c2]; rfl) (by decide) ?_
    refine lv_aload_n X.1 X.2.1 dX9_count_76 rfl (lv_at hl 0 rfl) ?_
    refine gC_ns_scales X I tb_379 dX9_count_77 ?_
    refine gC_scales_beginning X I (v := (S.1 53 0)) rfl tb_119 dX9_count_80 ?_
    exact rt_i X hr hlk I rfl (by refine ⟨?_, rfl⟩; first | (subst_vars; rfl) | (repeat rw [if_neg (by omega)])) dX9_count_83
  rcases Decidable.em (x = 2) with c3 | c3
  · refine lv_tableIn (off := 83) (tgt := 84) X.1 X.2.1 dX9_count_1 (by rw [iI_t (by omega)]; omega) (by rw [iI_t (by omega)]; omega) (by rw [iI_t (by omega), c3]; rfl) (by decide) ?_
    refine lv_aload_n X.1 X.2.1 dX9_count_84 rfl (lv_at hl 0 rfl) ?_
    refine gC_ns_scales X I tb_379 dX9_count_85 ?_
    refine gC_scales_row X I (v := (S.1 54 0)) rfl tb_121 dX9_count_88 ?_
    exact rt_i X hr hlk I rfl (by refine ⟨?_, rfl⟩; first | (subst_vars; rfl) | (repeat rw [if_neg (by omega)])) dX9_count_91
  rcases Decidable.em (x = 3) with c4 | c4
  · refine lv_tableIn (off := 91) (tgt := 92) X.1 X.2.1 dX9_count_1 (by rw [iI_t (by omega)]; omega) (by rw [iI_t (by omega)]; omega) (by rw [iI_t (by omega), c4]; rfl) (by decide) ?_
    refine lv_aload_n X.1 X.2.1 dX9_count_92 rfl (lv_at hl 0 rfl) ?_
    refine gC_ns_scales X I tb_379 dX9_count_93 ?_
    refine gC_scales_gap X I (v := (S.1 55 0)) rfl tb_123 dX9_count_96 ?_
    exact rt_i X hr hlk I rfl (by refine ⟨?_, rfl⟩; first | (subst_vars; rfl) | (repeat rw [if_neg (by omega)])) dX9_count_99
  rcases Decidable.em (x = 4) with c5 | c5
  · refine lv_tableIn (off := 99) (tgt := 100) X.1 X.2.1 dX9_count_1 (by rw [iI_t (by omega)]; omega) (by rw [iI_t (by omega)]; omega) (by rw [iI_t (by omega), c5]; rfl) (by decide) ?_
    refine lv_aload_n X.1 X.2.1 dX9_count_100 rfl (lv_at hl 0 rfl) ?_
    refine gC_ns_lot X I tb_378 dX9_count_101 ?_
    refine gC_lot_laid X I (v := (S.1 52 0)) rfl tb_104 dX9_count_104 ?_
    exact rt_i X hr hlk I rfl (by refine ⟨?_, rfl⟩; first | (subst_vars; rfl) | (repeat rw [if_neg (by omega)])) dX9_count_107
  rcases Decidable.em (x = 5) with c6 | c6
  · refine lv_tableIn (off := 107) (tgt := 108) X.1 X.2.1 dX9_count_1 (by rw [iI_t (by omega)]; omega) (by rw [iI_t (by omega)]; omega) (by rw [iI_t (by omega), c6]; rfl) (by decide) ?_
    refine lv_aload_n X.1 X.2.1 dX9_count_108 rfl (lv_at hl 0 rfl) ?_
    refine gC_ns_tick X I (v := (S.1 57 0)) rfl tb_388 dX9_count_109 ?_
    exact rt_i X hr hlk I rfl (by refine ⟨?_, rfl⟩; first | (subst_vars; rfl) | (repeat rw [if_neg (by omega)])) dX9_count_112
  rcases Decidable.em (x = 6) with c7 | c7
  · refine lv_tableIn (off := 112) (tgt := 113) X.1 X.2.1 dX9_count_1 (by rw [iI_t (by omega)]; omega) (by rw [iI_t (by omega)]; omega) (by rw [iI_t (by omega), c7]; rfl) (by decide) ?_
    refine lv_aload_n X.1 X.2.1 dX9_count_113 rfl (lv_at hl 0 rfl) ?_
    refine gC_ns_age X I (v := (S.1 58 0)) rfl tb_389 dX9_count_114 ?_
    exact rt_i X hr hlk I rfl (by refine ⟨?_, rfl⟩; first | (subst_vars; rfl) | (repeat rw [if_neg (by omega)])) dX9_count_117
  rcases Decidable.em (x = 7) with c8 | c8
  · refine lv_tableIn (off := 117) (tgt := 118) X.1 X.2.1 dX9_count_1 (by rw [iI_t (by omega)]; omega) (by rw [iI_t (by omega)]; omega) (by rw [iI_t (by omega), c8]; rfl) (by decide) ?_
    refine lv_aload_n X.1 X.2.1 dX9_count_118 rfl (lv_at hl 0 rfl) ?_
    refine gC_ns_known X I tb_384 dX9_count_119 ?_
    refine gC_known_hits X I (v := (S.1 61 0)) rfl tb_183 dX9_count_122 ?_
    exact rt_i X hr hlk I rfl (by refine ⟨?_, rfl⟩; first | (subst_vars; rfl) | (repeat rw [if_neg (by omega)])) dX9_count_125
  rcases Decidable.em (x = 8) with c9 | c9
  · refine lv_tableIn (off := 125) (tgt := 126) X.1 X.2.1 dX9_count_1 (by rw [iI_t (by omega)]; omega) (by rw [iI_t (by omega)]; omega) (by rw [iI_t (by omega), c9]; rfl) (by decide) ?_
    refine lv_aload_n X.1 X.2.1 dX9_count_126 rfl (lv_at hl 0 rfl) ?_
    refine gC_ns_known X I tb_384 dX9_count_127 ?_
    refine gC_known_misses X I (v := (S.1 62 0)) rfl tb_185 dX9_count_130 ?_
    exact rt_i X hr hlk I rfl (by refine ⟨?_, rfl⟩; first | (subst_vars; rfl) | (repeat rw [if_neg (by omega)])) dX9_count_133
  rcases Decidable.em (x = 9) with c10 | c10
  · refine lv_tableIn (off := 133) (tgt := 134) X.1 X.2.1 dX9_count_1 (by rw [iI_t (by omega)]; omega) (by rw [iI_t (by omega)]; omega) (by rw [iI_t (by omega), c10]; rfl) (by decide) ?_
    refine lv_aload_n X.1 X.2.1 dX9_count_134 rfl (lv_at hl 0 rfl) ?_
    refine gC_ns_seed X I (v := (S.1 59 0)) rfl tb_390 dX9_count_135 ?_
    exact rt_i X hr hlk I rfl (by refine ⟨?_, rfl⟩; first | (subst_vars; rfl) | (repeat rw [if_neg (by omega)])) dX9_count_138
  rcases Decidable.em (x = 10) with c11 | c11
  · refine lv_tableIn (off := 138) (tgt := 139) X.1 X.2.1 dX9_count_1 (by rw [iI_t (by omega)]; omega) (by rw [iI_t (by omega)]; omega) (by rw [iI_t (by omega), c11]; rfl) (by decide) ?_
    refine lv_aload_n X.1 X.2.1 dX9_count_139 rfl (lv_at hl 0 rfl) ?_
    refine gC_ns_keptSize X I (v := (S.1 56 0)) rfl tb_387 dX9_count_140 ?_
    exact rt_i X hr hlk I rfl (by refine ⟨?_, rfl⟩; first | (subst_vars; rfl) | (repeat rw [if_neg (by omega)])) dX9_count_143
  rcases Decidable.em (x = 11) with c12 | c12
  · refine lv_tableIn (off := 143) (tgt := 144) X.1 X.2.1 dX9_count_1 (by rw [iI_t (by omega)]; omega) (by rw [iI_t (by omega)]; omega) (by rw [iI_t (by omega), c12]; rfl) (by decide) ?_
    refine lv_aload_n X.1 X.2.1 dX9_count_144 rfl (lv_at hl 0 rfl) ?_
    refine gC_ns_text X I tb_377 dX9_count_145 ?_
    refine gC_text_size X I (v := (S.1 50 0)) rfl tb_45 dX9_count_148 ?_
    exact rt_i X hr hlk I rfl (by refine ⟨?_, rfl⟩; first | (subst_vars; rfl) | (repeat rw [if_neg (by omega)])) dX9_count_151
  rcases Decidable.em (x = 12) with c13 | c13
  · refine lv_tableIn (off := 151) (tgt := 152) X.1 X.2.1 dX9_count_1 (by rw [iI_t (by omega)]; omega) (by rw [iI_t (by omega)]; omega) (by rw [iI_t (by omega), c13]; rfl) (by decide) ?_
    refine lv_aload_n X.1 X.2.1 dX9_count_152 rfl (lv_at hl 0 rfl) ?_
    refine gC_ns_typed X I tb_380 dX9_count_153 ?_
    refine cl_l I (runV (As := []) (rest := []) X (k_X8_code l G S (0) (S.1 8 0) (S.1 (16 + 0)) rfl (fun i_ => rfl) (by decide) hw0.1 hw0.2) (gdC tb_474 (gdC tb_475 (gdC tb_476 (gdC tb_19 (gdC tb_477 gdB))))) ⟨ok_X8_code, ⟨Nat.le_of_ble_eq_true rfl, Nat.le_of_ble_eq_true rfl⟩, rfl, rfl⟩ (PreV.of (C := RX8) (T := TX8) (N := 2) I (atC_word (w := 0) (by decide)) rfl) rfl hl.1 rfl (Nat.le_of_ble_eq_true rfl) dX9_count_156 ⟨Nat.zero_le _, Nat.zero_le _⟩) (fun r14 S15 H locs q16 I => ?_)
    obtain ⟨e1_, e2_⟩ := q16
    rw [e2_] at I
    rw [e1_]
    clear e1_ e2_
    have hcr := cdv_r (f := (S.1 (16 + 0))) ((S.1 8 0)).toNat (by omega) (fun i h1 h2 => hw0.2 i h1 (by omega))
    refine ri_ldc2 X (v := 100003) tb_480 rfl dX9_count_159 ?_
    refine ri_lrem X (v := ((cdv (S.1 (16 + 0)) ((S.1 8 0)).toNat) % 100003)) rfl (by omega) (by omega) dX9_count_162 ?_
    refine ri_l2i X dX9_count_163 ?_
    exact rt_i X hr hlk I rfl (by refine ⟨?_, rfl⟩; first | (subst_vars; rfl) | (repeat rw [if_neg (by omega)])) dX9_count_164
  refine lv_tableOut (tgt := 165) X.1 X.2.1 dX9_count_1 (by rw [iI_t (by omega)]; omega) (by decide) ?_
  refine ri_const X (v := (-1)) dX9_count_165 ?_
  exact rt_i X hr hlk I rfl (by refine ⟨?_, rfl⟩; first | (subst_vars; rfl) | (repeat rw [if_neg (by omega)])) dX9_count_166

theorem ok_X9_seekScore : yX9_seekScore.cls ≠ "java/lang/invoke/MethodHandle" ∧ yX9_seekScore.cls ≠ "java/lang/invoke/VarHandle" ∧ (parseMethodDescriptor yX9_seekScore.desc).map (fun d => d.parameters.length) = some 1 := ⟨by decide +kernel, by decide +kernel, by decide +kernel⟩
abbrev po_X9_seekScore (S : St) (j : Nat) (n_ : Int) (kd : Int) (bg : Int) (sg : Int → Int) (m_ : Int) (f : Int → Int) (b_ : Int) (r_ : Int) (g_ : Int) : Int → St → Prop := fun r S1 => S1.2 = S.2 ∧ (∀ (c_ : Nat) (i : Int), ¬ (30 ≤ c_ ∧ c_ < 46) → ¬ c_ = 60 → S1.1 c_ i = (skF S.1 j (wor sg f kd bg b_ r_ g_ n_ m_) (cdv f m_.toNat)).1 c_ i) ∧ r = (skF S.1 j (wor sg f kd bg b_ r_ g_ n_ m_) (cdv f m_.toNat)).2 ∧ nxi S1.1
abbrev rm_X9_seekScore : Room := ({ frames := 5, cells := 0, slots := 0, locals := 113 } : Room)
set_option maxRecDepth 100000 in
set_option maxHeartbeats 4000000 in
theorem k_X9_seekScore (l : Launch) (G : Ge) (S : St) (j : Nat) (n_ : Int) (kd : Int) (bg : Int) (sg : Int → Int) (m_ : Int) (f : Int → Int) (b_ : Int) (r_ : Int) (g_ : Int) (e_n_ : S.1 2 (j : Int) = n_) (e_kd : S.1 3 (j : Int) = kd) (e_bg : S.1 6 (j : Int) = bg) (e_sg : ∀ i : Int, S.1 (20 + j) i = sg i) (e_m_ : S.1 8 0 = m_) (e_f : ∀ i : Int, S.1 (16 + 0) i = f i) (e_b_ : S.1 53 0 = b_) (e_r_ : S.1 54 0 = r_) (e_g_ : S.1 55 0 = g_) (hI : SI S.1) (hj : j < 8) (hnj : NmOK S.1 j) : Ki (KC G) l yX9_seekScore cX9_seekScore 6 .int rm_X9_seekScore [.ref (G.2.2 0), .ref (G.2.2 (41 + 2 * j))] S (po_X9_seekScore S j n_ kd bg sg m_ f b_ r_ g_) := by
  refine K_start (own := "NameSeeker") (by decide +kernel) rfl (Nat.le_of_ble_eq_true rfl) ?_
  intro p e s m args below meth c X hr hlk I ls hl
  have hl : lv_has ls 6 [(0, .ref (G.2.2 0)), (1, .ref (G.2.2 (41 + 2 * j)))] := hl
  obtain ⟨hsc, hag, hw0, hkn, hnx⟩ := hI
  obtain ⟨hn1, hn2, hn3, hn4, hn5, hn6, hn7⟩ := hnj
  rw [e_n_] at hn1 hn7
  rw [e_kd] at hn2
  rw [e_bg] at hn5
  rw [e_b_, e_r_, e_g_] at hsc
  rw [e_m_] at hw0
  have hw0 : (0 ≤ m_ ∧ m_ ≤ 6) ∧ ∀ i : Int, 0 ≤ i → i < m_ → ((97 ≤ f i ∧ f i ≤ 122) ∨ (65 ≤ f i ∧ f i ≤ 90)) := ⟨hw0.1, fun i h1 h2 => by rw [← e_f i]; exact hw0.2 i h1 h2⟩
  have hn7 : ∀ i : Int, 0 ≤ i → i < n_ → 0 ≤ sg i ∧ sg i ≤ 126 := fun i h1 h2 => by rw [← e_sg i]; exact hn7 i h1 h2
  refine lv_aload_n X.1 X.2.1 dX9_seekScore_0 rfl (lv_at hl 0 rfl) ?_
  refine gC_ns_typed X I tb_380 dX9_seekScore_1 ?_
  refine cl_l I (runV (As := []) (rest := []) X (k_X8_code l G S (0) m_ (f) e_m_ (fun i_ => (e_f i_)) (by decide) hw0.1 hw0.2) (gdC tb_474 (gdC tb_475 (gdC tb_476 (gdC tb_19 (gdC tb_477 gdB))))) ⟨ok_X8_code, ⟨Nat.le_of_ble_eq_true rfl, Nat.le_of_ble_eq_true rfl⟩, rfl, rfl⟩ (PreV.of (C := RX8) (T := TX8) (N := 2) I (atC_word (w := 0) (by decide)) rfl) rfl hl.1 rfl (Nat.le_of_ble_eq_true rfl) dX9_seekScore_4 ⟨Nat.zero_le _, Nat.zero_le _⟩) (fun r1 S2 H locs q3 I => ?_)
  obtain ⟨e1_, e2_⟩ := q3
  rw [e2_] at I
  rw [e1_]
  clear e1_ e2_
  have hcr := cdv_r (f := (f)) (m_).toNat (by omega) (fun i h1 h2 => hw0.2 i h1 (by omega))
  refine lv_lstore_n (lv' := [(2, .long (lI (cdv (f) (m_).toNat))), (0, .ref (G.2.2 0)), (1, .ref (G.2.2 (41 + 2 * j)))]) X.1 X.2.1 dX9_seekScore_7 rfl hl (by decide) rfl (fun ls hl => ?_)
  refine lv_aload_n X.1 X.2.1 dX9_seekScore_8 rfl (lv_at hl 2 rfl) ?_
  refine gC_name_id X I (j := j) hj (v := (S.1 4 (j : Int))) rfl tb_74 dX9_seekScore_9 ?_
  refine lv_lload_n X.1 X.2.1 dX9_seekScore_12 rfl (lv_at hl 0 rfl) ?_
  refine lv_aload_n X.1 X.2.1 dX9_seekScore_13 rfl (lv_at hl 1 rfl) ?_
  refine gC_ns_age X I (v := (S.1 58 0)) rfl tb_389 dX9_seekScore_14 ?_
  refine cl_i I (runS (As := [.int (iI (S.1 4 (j : Int))), .long (lI (cdv (f) (m_).toNat)), .int (iI (S.1 58 0))]) (rest := []) X (k_X1_placeOf l G S  (S.1 4 (j : Int)) (cdv (f) (m_).toNat) (S.1 58 0)  (by omega) (by omega) (by omega)) (gdC tb_548 gdB) tb_546 tb_547 tb_21 ⟨ok_X1_placeOf, ⟨Nat.le_of_ble_eq_true rfl, Nat.le_of_ble_eq_true rfl⟩, rfl, rfl⟩ (PreS.of I) rfl hl.1 rfl (Nat.le_of_ble_eq_true rfl) dX9_seekScore_17 ⟨Nat.zero_le _, Nat.zero_le _⟩) (fun r4 S5 H locs q6 I => ?_)
  obtain ⟨e1_, e2_⟩ := q6
  rw [e2_] at I
  rw [e1_]
  clear e1_ e2_
  refine lv_istore (lv' := [(4, .int (iI (((31 * (S.1 4 (j : Int)) + 7 * (cdv (f) (m_).toNat)) + (S.1 58 0)) % 32))), (2, .long (lI (cdv (f) (m_).toNat))), (0, .ref (G.2.2 0)), (1, .ref (G.2.2 (41 + 2 * j)))]) X.1 X.2.1 dX9_seekScore_20 hl (by decide) rfl (fun ls hl => ?_)
  have hkp := hkn (((31 * S.1 4 (j : Int) + 7 * (cdv f m_.toNat)) + S.1 58 0) % 32) (by omega) (by omega)
  refine lv_aload_n X.1 X.2.1 dX9_seekScore_22 rfl (lv_at hl 2 rfl) ?_
  refine gC_ns_known X I tb_384 dX9_seekScore_23 ?_
  refine lv_iload X.1 X.2.1 dX9_seekScore_26 (lv_at hl 0 rfl) ?_
  refine lv_aload_n X.1 X.2.1 dX9_seekScore_28 rfl (lv_at hl 3 rfl) ?_
  refine gC_name_id X I (j := j) hj (v := (S.1 4 (j : Int))) rfl tb_74 dX9_seekScore_29 ?_
  refine lv_lload_n X.1 X.2.1 dX9_seekScore_32 rfl (lv_at hl 1 rfl) ?_
  refine lv_aload_n X.1 X.2.1 dX9_seekScore_33 rfl (lv_at hl 2 rfl) ?_
  refine gC_ns_age X I (v := (S.1 58 0)) rfl tb_389 dX9_seekScore_34 ?_
  refine cl_i I (runV (As := [.int (iI (((31 * (S.1 4 (j : Int)) + 7 * (cdv (f) (m_).toNat)) + (S.1 58 0)) % 32)), .int (iI (S.1 4 (j : Int))), .long (lI (cdv (f) (m_).toNat)), .int (iI (S.1 58 0))]) (rest := []) X (k_X1_holds l G S  (((31 * (S.1 4 (j : Int)) + 7 * (cdv (f) (m_).toNat)) + (S.1 58 0)) % 32) (S.1 4 (j : Int)) (cdv (f) (m_).toNat) (S.1 58 0) (S.1 10 (((31 * (S.1 4 (j : Int)) + 7 * (cdv (f) (m_).toNat)) + (S.1 58 0)) % 32)) (S.1 11 (((31 * (S.1 4 (j : Int)) + 7 * (cdv (f) (m_).toNat)) + (S.1 58 0)) % 32)) (S.1 12 (((31 * (S.1 4 (j : Int)) + 7 * (cdv (f) (m_).toNat)) + (S.1 58 0)) % 32)) rfl rfl rfl (by omega) (by omega) (by omega) (by omega) (by omega)) (gdC tb_551 (gdC tb_552 (gdC tb_553 (gdC tb_21 (gdC tb_554 gdB))))) ⟨ok_X1_holds, ⟨Nat.le_of_ble_eq_true rfl, Nat.le_of_ble_eq_true rfl⟩, rfl, rfl⟩ (PreV.of (C := RX1) (T := TX1) (N := 6) I (atC_known) rfl) rfl hl.1 rfl (Nat.le_of_ble_eq_true rfl) dX9_seekScore_37 ⟨Nat.zero_le _, Nat.zero_le _⟩) (fun r7 S8 H locs q9 I => ?_)
  obtain ⟨e1_, e2_⟩ := q9
  rw [e2_] at I
  rw [e1_]
  clear e1_ e2_
  rcases Decidable.em (((S.1 10 (((31 * (S.1 4 (j : Int)) + 7 * (cdv (f) (m_).toNat)) + (S.1 58 0)) % 32)) = (S.1 4 (j : Int)) ∧ (S.1 11 (((31 * (S.1 4 (j : Int)) + 7 * (cdv (f) (m_).toNat)) + (S.1 58 0)) % 32)) = (cdv (f) (m_).toNat) ∧ (S.1 12 (((31 * (S.1 4 (j : Int)) + 7 * (cdv (f) (m_).toNat)) + (S.1 58 0)) % 32)) = (S.1 58 0))) with b10 | b10
  · rw [bI_t b10]
    refine rz_eq (tgt := 67) X (by omega) dX9_seekScore_40 (by decide) (fun c11 => absurd c11 (by decide)) (fun _ => ?_)
    refine lv_aload_n X.1 X.2.1 dX9_seekScore_43 rfl (lv_at hl 2 rfl) ?_
    refine gC_ns_known X I tb_384 dX9_seekScore_44 ?_
    refine lv_dup X.1 X.2.1 dX9_seekScore_47 rfl ?_
    refine gC_known_hits X I (v := (S.1 61 0)) rfl tb_183 dX9_seekScore_48 ?_
    refine ri_const X (v := 1) dX9_seekScore_51 ?_
    refine ri_add X (v := ((S.1 61 0) + 1)) rfl dX9_seekScore_52 ?_
    refine pC_known_hits X I tb_183 dX9_seekScore_53 (fun H locs I => ?_)
    have I : In (KC G) s s.heap H locs ((us S.1 61 ((S.1 61 0) + 1)), S.2) := I
    refine lv_aload_n X.1 X.2.1 dX9_seekScore_56 rfl (lv_at hl 2 rfl) ?_
    refine gC_ns_known X I tb_384 dX9_seekScore_57 ?_
    refine gC_known_scores X I tb_181 dX9_seekScore_60 ?_
    refine lv_iload X.1 X.2.1 dX9_seekScore_63 (lv_at hl 0 rfl) ?_
    refine aC_kscores X I (v := (S.1 13 (((31 * (S.1 4 (j : Int)) + 7 * (cdv (f) (m_).toNat)) + (S.1 58 0)) % 32))) (by show (us S.1 61 ((S.1 61 0) + 1)) 13 (((31 * (S.1 4 (j : Int)) + 7 * (cdv (f) (m_).toNat)) + (S.1 58 0)) % 32) = _; rw [us_nc (by decide)]) (by omega) dX9_seekScore_65 ?_
    exact rt_i X hr hlk I rfl (by unfold po_X9_seekScore; rw [skF_hit (show (S.1 10 (((31 * S.1 4 (j : Int) + 7 * (cdv f m_.toNat)) + S.1 58 0) % 32) = S.1 4 (j : Int) ∧ S.1 11 (((31 * S.1 4 (j : Int) + 7 * (cdv f m_.toNat)) + S.1 58 0) % 32) = (cdv f m_.toNat) ∧ S.1 12 (((31 * S.1 4 (j : Int) + 7 * (cdv f m_.toNat)) + S.1 58 0) % 32) = S.1 58 0) by assumption)]; exact ⟨rfl, fun _ _ _ _ => rfl, rfl, nxi_us (by decide) hnx⟩) dX9_seekScore_66
  · rw [bI_f b10]
    refine rz_eq (tgt := 67) X (by omega) dX9_seekScore_40 (by decide) (fun _ => ?_) (fun c12 => absurd c12 (fun q => q (by decide)))
    refine lv_aload_n X.1 X.2.1 dX9_seekScore_67 rfl (lv_at hl 2 rfl) ?_
    refine gC_ns_known X I tb_384 dX9_seekScore_68 ?_
    refine lv_dup X.1 X.2.1 dX9_seekScore_71 rfl ?_
    refine gC_known_misses X I (v := (S.1 62 0)) rfl tb_185 dX9_seekScore_72 ?_
    refine ri_const X (v := 1) dX9_seekScore_75 ?_
    refine ri_add X (v := ((S.1 62 0) + 1)) rfl dX9_seekScore_76 ?_
    refine pC_known_misses X I tb_185 dX9_seekScore_77 (fun H locs I => ?_)
    have I : In (KC G) s s.heap H locs ((us S.1 62 ((S.1 62 0) + 1)), S.2) := I
    refine lv_aload_n X.1 X.2.1 dX9_seekScore_80 rfl (lv_at hl 2 rfl) ?_
    refine gC_ns_laying X I tb_383 dX9_seekScore_81 ?_
    refine lv_aload_n X.1 X.2.1 dX9_seekScore_84 rfl (lv_at hl 3 rfl) ?_
    refine lv_aload_n X.1 X.2.1 dX9_seekScore_85 rfl (lv_at hl 2 rfl) ?_
    refine gC_ns_typed X I tb_380 dX9_seekScore_86 ?_
    refine lv_aload_n X.1 X.2.1 dX9_seekScore_89 rfl (lv_at hl 2 rfl) ?_
    refine gC_ns_scales X I tb_379 dX9_seekScore_90 ?_
    refine cl_i I (runV (As := [.ref (G.2.2 (41 + 2 * j)), .ref (G.2.2 (6 + 2 * 0)), .ref (G.2.2 5)]) (rest := []) X (k_X2_workOut l G ((us S.1 62 ((S.1 62 0) + 1)), S.2) (j) (0) n_ kd bg (sg) m_ (f) b_ r_ g_ (by show (us S.1 62 ((S.1 62 0) + 1)) 2 (j : Int) = _; rw [us_nc (by decide)]; exact e_n_) (by show (us S.1 62 ((S.1 62 0) + 1)) 3 (j : Int) = _; rw [us_nc (by decide)]; exact e_kd) (by show (us S.1 62 ((S.1 62 0) + 1)) 6 (j : Int) = _; rw [us_nc (by decide)]; exact e_bg) (fun i_ => (by show (us S.1 62 ((S.1 62 0) + 1)) (20 + j) i_ = _; rw [us_nc (by omega)]; exact (e_sg i_))) (by show (us S.1 62 ((S.1 62 0) + 1)) 8 0 = _; rw [us_nc (by decide)]; exact e_m_) (fun i_ => (by show (us S.1 62 ((S.1 62 0) + 1)) (16 + 0) i_ = _; rw [us_nc (by omega)]; exact (e_f i_))) (by show (us S.1 62 ((S.1 62 0) + 1)) 53 0 = _; rw [us_nc (by decide)]; exact e_b_) (by show (us S.1 62 ((S.1 62 0) + 1)) 54 0 = _; rw [us_nc (by decide)]; exact e_r_) (by show (us S.1 62 ((S.1 62 0) + 1)) 55 0 = _; rw [us_nc (by decide)]; exact e_g_) hj (by omega) hn2 hn5 hsc.1 hsc.2.1 hsc.2.2 (by omega) hw0.1 hn7 hw0.2 (nxi_us (by decide) hnx)) (gdC tb_555 (gdC tb_556 (gdC tb_557 (gdC tb_20 (gdC tb_558 gdB))))) ⟨ok_X2_workOut, ⟨Nat.le_of_ble_eq_true rfl, Nat.le_of_ble_eq_true rfl⟩, rfl, rfl⟩ (PreV.of (C := RX2) (T := TX2) (N := 4) I (atC_laying) rfl) rfl hl.1 rfl (Nat.le_of_ble_eq_true rfl) dX9_seekScore_93 ⟨Nat.zero_le _, Nat.zero_le _⟩) (fun r13 S14 H locs q15 I => ?_)
    obtain ⟨hA2, hAf, e1_, hA60, hArow, hAn⟩ := q15
    rw [e1_]
    obtain ⟨V1, V2⟩ := S14
    dsimp only at hA2 hAf hA60 hArow hAn
    subst hA2
    have hwr := wor_r (sg := (sg)) (f := (f)) (kd := kd) (bg := bg) (m := m_) (n := n_) (b := b_) (r := r_) (g := g_) (by omega) (by omega) (by omega) (by omega) (by omega)
    refine lv_istore (lv' := [(5, .int (iI (wor (sg) (f) kd bg b_ r_ g_ n_ m_))), (4, .int (iI (((31 * (S.1 4 (j : Int)) + 7 * (cdv (f) (m_).toNat)) + (S.1 58 0)) % 32))), (2, .long (lI (cdv (f) (m_).toNat))), (0, .ref (G.2.2 0)), (1, .ref (G.2.2 (41 + 2 * j)))]) X.1 X.2.1 dX9_seekScore_96 hl (by decide) rfl (fun ls hl => ?_)
    refine lv_aload_n X.1 X.2.1 dX9_seekScore_98 rfl (lv_at hl 3 rfl) ?_
    refine gC_ns_known X I tb_384 dX9_seekScore_99 ?_
    refine lv_iload X.1 X.2.1 dX9_seekScore_102 (lv_at hl 1 rfl) ?_
    refine lv_aload_n X.1 X.2.1 dX9_seekScore_104 rfl (lv_at hl 4 rfl) ?_
    refine gC_name_id X I (j := j) hj (v := (S.1 4 (j : Int))) ((hAf 4 (j : Int) (by omega) (by omega)).trans (by show (us S.1 62 ((S.1 62 0) + 1)) 4 (j : Int) = _; rw [us_nc (by decide)])) tb_74 dX9_seekScore_105 ?_
    refine lv_lload_n X.1 X.2.1 dX9_seekScore_108 rfl (lv_at hl 2 rfl) ?_
    refine lv_aload_n X.1 X.2.1 dX9_seekScore_109 rfl (lv_at hl 3 rfl) ?_
    refine gC_ns_age X I (v := (S.1 58 0)) ((hAf 58 0 (by omega) (by omega)).trans (by show (us S.1 62 ((S.1 62 0) + 1)) 58 0 = _; rw [us_nc (by decide)])) tb_389 dX9_seekScore_110 ?_
    refine lv_iload X.1 X.2.1 dX9_seekScore_113 (lv_at hl 0 rfl) ?_
    refine cl_v I (runV (As := [.int (iI (((31 * (S.1 4 (j : Int)) + 7 * (cdv (f) (m_).toNat)) + (S.1 58 0)) % 32)), .int (iI (S.1 4 (j : Int))), .long (lI (cdv (f) (m_).toNat)), .int (iI (S.1 58 0)), .int (iI (wor (sg) (f) kd bg b_ r_ g_ n_ m_))]) (rest := []) X (k_X1_put l G (V1, S.2)  (((31 * (S.1 4 (j : Int)) + 7 * (cdv (f) (m_).toNat)) + (S.1 58 0)) % 32) (S.1 4 (j : Int)) (cdv (f) (m_).toNat) (S.1 58 0) (wor (sg) (f) kd bg b_ r_ g_ n_ m_)  (by omega)) (gdC tb_575 (gdC tb_576 (gdC tb_577 (gdC tb_21 (gdC tb_578 gdB))))) ⟨ok_X1_put, ⟨Nat.le_of_ble_eq_true rfl, Nat.le_of_ble_eq_true rfl⟩, rfl, rfl⟩ (PreV.of (C := RX1) (T := TX1) (N := 6) I (atC_known) rfl) rfl hl.1 rfl (Nat.le_of_ble_eq_true rfl) dX9_seekScore_115 ⟨Nat.zero_le _, Nat.zero_le _⟩) (fun S17 H locs q18 I => ?_)
    rw [q18] at I
    have I : In (KC G) s s.heap H locs ((ua (ua (ua (ua V1 10 (((31 * (S.1 4 (j : Int)) + 7 * (cdv (f) (m_).toNat)) + (S.1 58 0)) % 32) (S.1 4 (j : Int))) 11 (((31 * (S.1 4 (j : Int)) + 7 * (cdv (f) (m_).toNat)) + (S.1 58 0)) % 32) (cdv (f) (m_).toNat)) 12 (((31 * (S.1 4 (j : Int)) + 7 * (cdv (f) (m_).toNat)) + (S.1 58 0)) % 32) (S.1 58 0)) 13 (((31 * (S.1 4 (j : Int)) + 7 * (cdv (f) (m_).toNat)) + (S.1 58 0)) % 32) (wor (sg) (f) kd bg b_ r_ g_ n_ m_)), S.2) := I
    refine lv_iload X.1 X.2.1 dX9_seekScore_118 (lv_at hl 0 rfl) ?_
    exact rt_i X hr hlk I rfl (by unfold po_X9_seekScore; rw [skF_miss (show ¬ (S.1 10 (((31 * S.1 4 (j : Int) + 7 * (cdv f m_.toNat)) + S.1 58 0) % 32) = S.1 4 (j : Int) ∧ S.1 11 (((31 * S.1 4 (j : Int) + 7 * (cdv f m_.toNat)) + S.1 58 0) % 32) = (cdv f m_.toNat) ∧ S.1 12 (((31 * S.1 4 (j : Int) + 7 * (cdv f m_.toNat)) + S.1 58 0) % 32) = S.1 58 0) by assumption)]; refine ⟨rfl, fun c_ i h1 h2 => ?_, rfl, nxi_ua4 hAn⟩; dsimp only; exact ua4_congr (hAf c_ i (by omega) (by omega))) dX9_seekScore_120
