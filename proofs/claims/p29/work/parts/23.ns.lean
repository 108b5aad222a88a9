abbrev scO (F : Nat → Int → Int) (j : Nat) : Int := wor (F (20 + j)) (F (16 + 0)) (F 3 (j : Int)) (F 6 (j : Int)) (F 53 0) (F 54 0) (F 55 0) (F 2 (j : Int)) (F 8 0)
abbrev cdO (F : Nat → Int → Int) : Int := cdv (F (16 + 0)) (F 8 0).toNat
abbrev psO (F : Nat → Int → Int) (P : Nat → Nat) (n : Int) : Prop := bandn (wlb (F (16 + 0)) (F 8 0).toNat) (F 7 ((P n.toNat : Nat) : Int)) = 0
def askF (F : Nat → Int → Int) (u : Int) : Nat → Int → Int := (us (ua (ua (ua (ua (ua (ua F 14 5 (F 14 4)) 14 4 (F 14 3)) 14 3 (F 14 2)) 14 2 (F 14 1)) 14 1 (F 14 0)) 14 0 u) 63 (if 6 < ((F 63 0) + 1) then 6 else ((F 63 0) + 1)))
def cpyP (F V : Nat → Int → Int) (w v : Nat) : Prop := V 8 (w : Int) = F 8 (v : Int) ∧ (∀ i : Int, 0 ≤ i → i < F 8 (v : Int) → V (16 + w) i = F (16 + v) i) ∧ ∀ (c_ : Nat) (i : Int), ¬ c_ = 16 + w → ¬ (c_ = 8 ∧ i = (w : Int)) → V c_ i = F c_ i
/-- all that pass are sought, one behind the other -/
def skA (F : Nat → Int → Int) (P : Nat → Nat) : Nat → Nat → Int → Int
  | 0 => F
  | n + 1 => if psO F P n then ua (skF (skA F P n) (P n) (scO F (P n)) (cdO F)).1 15 n (skF (skA F P n) (P n) (scO F (P n)) (cdO F)).2 else ua (skA F P n) 15 n (-4)
theorem skF_congr {U F : Nat → Int → Int} {j : Nat} {sc code : Int} (h : ∀ (c_ : Nat) (i : Int), ¬ (30 ≤ c_ ∧ c_ < 46) → ¬ c_ = 60 → U c_ i = F c_ i) : (∀ (c_ : Nat) (i : Int), ¬ (30 ≤ c_ ∧ c_ < 46) → ¬ c_ = 60 → (skF U j sc code).1 c_ i = (skF F j sc code).1 c_ i) ∧ (skF U j sc code).2 = (skF F j sc code).2 := by
  have e : plc U j code = plc F j code := by unfold plc; rw [h 4 _ (by decide) (by decide), h 58 _ (by decide) (by decide)]
  unfold skF
  rw [e, h 10 _ (by decide) (by decide), h 11 _ (by decide) (by decide), h 12 _ (by decide) (by decide), h 4 _ (by decide) (by decide), h 58 _ (by decide) (by decide), h 61 _ (by decide) (by decide), h 62 _ (by decide) (by decide), h 13 _ (by decide) (by decide)]
  split
  · refine ⟨fun c_ i h1 h2 => ?_, rfl⟩
    dsimp only
    rw [us_at, us_at, h c_ i h1 h2]
  · refine ⟨fun c_ i h1 h2 => ?_, rfl⟩
    dsimp only
    refine ua4_congr ?_
    rw [us_at, us_at, h c_ i h1 h2]
theorem skF_fr {F : Nat → Int → Int} {j : Nat} {sc code : Int} {c : Nat} {i : Int} (h1 : ¬ (10 ≤ c ∧ c < 14)) (h2 : ¬ c = 61) (h3 : ¬ c = 62) : (skF F j sc code).1 c i = F c i := by
  unfold skF
  split
  · exact us_nc h2
  · dsimp only
    rw [ua_nc (by omega), ua_nc (by omega), ua_nc (by omega), ua_nc (by omega), us_nc h3]
theorem plc_r {F : Nat → Int → Int} {j : Nat} {code : Int} : 0 ≤ plc F j code ∧ plc F j code < 32 := by unfold plc; omega
theorem skF_r {F : Nat → Int → Int} {j : Nat} {sc code : Int} (h : SI F) (hs : -1000 ≤ sc ∧ sc ≤ 1000) : -1000 ≤ (skF F j sc code).2 ∧ (skF F j sc code).2 ≤ 1000 := by
  unfold skF
  split
  · exact (h.2.2.2.1 _ plc_r.1 plc_r.2).2.2.2
  · exact hs
theorem SI_15 {F : Nat → Int → Int} {i v : Int} (h : SI F) : SI (ua F 15 i v) := by
  unfold SI at *
  simp only [show ∀ j, ua F 15 i v 53 j = F 53 j from fun j => ua_nc (by decide), show ∀ j, ua F 15 i v 54 j = F 54 j from fun j => ua_nc (by decide), show ∀ j, ua F 15 i v 55 j = F 55 j from fun j => ua_nc (by decide), show ∀ j, ua F 15 i v 58 j = F 58 j from fun j => ua_nc (by decide), show ∀ j, ua F 15 i v 8 j = F 8 j from fun j => ua_nc (by decide), show ∀ j, ua F 15 i v (16 + 0) j = F (16 + 0) j from fun j => ua_nc (by decide), show ∀ j, ua F 15 i v 10 j = F 10 j from fun j => ua_nc (by decide), show ∀ j, ua F 15 i v 11 j = F 11 j from fun j => ua_nc (by decide), show ∀ j, ua F 15 i v 12 j = F 12 j from fun j => ua_nc (by decide), show ∀ j, ua F 15 i v 13 j = F 13 j from fun j => ua_nc (by decide)]
  exact ⟨h.1, h.2.1, h.2.2.1, h.2.2.2.1, nxi_ua (by decide) h.2.2.2.2⟩
theorem SI_sk {F V : Nat → Int → Int} {j : Nat} {sc code : Int} (h : SI F) (hi : 0 ≤ F 4 (j : Int) ∧ F 4 (j : Int) ≤ 100000) (hs : -1000 ≤ sc ∧ sc ≤ 1000) (hc : 0 ≤ code ∧ code < 22164361129) (hV : ∀ (c_ : Nat) (i : Int), ¬ (30 ≤ c_ ∧ c_ < 46) → ¬ c_ = 60 → V c_ i = (skF F j sc code).1 c_ i) (hn : nxi V) : SI V := by
  have e : ∀ (c_ : Nat) (i : Int), ¬ (10 ≤ c_ ∧ c_ < 14) → ¬ c_ = 61 → ¬ c_ = 62 → ¬ (30 ≤ c_ ∧ c_ < 46) → ¬ c_ = 60 → V c_ i = F c_ i := fun c_ i a b c d f => (hV c_ i d f).trans (skF_fr a b c)
  obtain ⟨h1, h2, h3, h4, h5⟩ := h
  refine ⟨?_, ?_, ?_, ?_, hn⟩
  · rw [e 53 _ (by decide) (by decide) (by decide) (by decide) (by decide), e 54 _ (by decide) (by decide) (by decide) (by decide) (by decide), e 55 _ (by decide) (by decide) (by decide) (by decide) (by decide)]; exact h1
  · rw [e 58 _ (by decide) (by decide) (by decide) (by decide) (by decide)]; exact h2
  · rw [e 8 _ (by decide) (by decide) (by decide) (by decide) (by decide)]
    refine ⟨h3.1, fun i a b => ?_⟩
    rw [e (16 + 0) _ (by decide) (by decide) (by decide) (by decide) (by decide)]; exact h3.2 i a b
  · intro q q1 q2
    rw [hV 10 q (by decide) (by decide), hV 11 q (by decide) (by decide), hV 12 q (by decide) (by decide), hV 13 q (by decide) (by decide)]
    have hq := h4 q q1 q2
    unfold skF
    split
    · dsimp only
      rw [us_nc (by decide), us_nc (by decide), us_nc (by decide), us_nc (by decide)]; exact hq
    · dsimp only
      simp only [ua_at, us_at]
      have g : ∀ (a b : Nat), ¬ a = b → ∀ (x y : Int), ¬ (a = b ∧ x = y) := fun a b z x y w => z w.1
      simp
      by_cases hqp : q = plc F j code
      · simp only [hqp, if_true]
        omega
      · simp only [hqp, if_false]
        exact hq
theorem NmOK_fr {F U : Nat → Int → Int} {j : Nat} (h : ∀ (c_ : Nat) (i : Int), ((2 ≤ c_ ∧ c_ ≤ 7) ∨ (20 ≤ c_ ∧ c_ < 28)) → U c_ i = F c_ i) (hj : j < 8) (hn : NmOK F j) : NmOK U j := by
  unfold NmOK at *
  rw [h 2 _ (by omega), h 3 _ (by omega), h 4 _ (by omega), h 5 _ (by omega), h 6 _ (by omega), h 7 _ (by omega)]
  refine ⟨hn.1, hn.2.1, hn.2.2.1, hn.2.2.2.1, hn.2.2.2.2.1, hn.2.2.2.2.2.1, fun i a b => ?_⟩
  rw [h (20 + j) i (by omega)]
  exact hn.2.2.2.2.2.2 i a b
theorem skA_n {F U : Nat → Int → Int} {P : Nat → Nat} {n : Int} (hn : 0 ≤ n) (h : ∀ (c_ : Nat) (i : Int), ¬ (30 ≤ c_ ∧ c_ < 46) → ¬ c_ = 60 → U c_ i = skA F P n.toNat c_ i) (hp : ¬ psO F P n) : ∀ (c_ : Nat) (i : Int), ¬ (30 ≤ c_ ∧ c_ < 46) → ¬ c_ = 60 → ua U 15 n (-4) c_ i = skA F P (n + 1).toNat c_ i := fun c_ i h1 h2 => by
  rw [show (n + 1).toNat = n.toNat + 1 by omega, skA, show ((n.toNat : Nat) : Int) = n by omega, if_neg hp]
  exact ua_congr (h c_ i h1 h2)
theorem skA_y {F U V : Nat → Int → Int} {P : Nat → Nat} {n : Int} (hn : 0 ≤ n) (h : ∀ (c_ : Nat) (i : Int), ¬ (30 ≤ c_ ∧ c_ < 46) → ¬ c_ = 60 → U c_ i = skA F P n.toNat c_ i) (hp : psO F P n) (hA : ∀ (c_ : Nat) (i : Int), ¬ (30 ≤ c_ ∧ c_ < 46) → ¬ c_ = 60 → V c_ i = (skF U (P n.toNat) (scO F (P n.toNat)) (cdO F)).1 c_ i) : ∀ (c_ : Nat) (i : Int), ¬ (30 ≤ c_ ∧ c_ < 46) → ¬ c_ = 60 → ua V 15 n (skF U (P n.toNat) (scO F (P n.toNat)) (cdO F)).2 c_ i = skA F P (n + 1).toNat c_ i := fun c_ i h1 h2 => by
  have e := skF_congr (j := P n.toNat) (sc := scO F (P n.toNat)) (code := cdO F) h
  rw [show (n + 1).toNat = n.toNat + 1 by omega, skA, show ((n.toNat : Nat) : Int) = n by omega, if_pos hp, e.2]
  exact ua_congr ((hA c_ i h1 h2).trans (e.1 c_ i h1 h2))
theorem wob_r {sg f : Int → Int} {kd bg b r g n m : Int} (hn : 0 ≤ n ∧ n ≤ 12) : -1 ≤ wob sg f kd bg b r g n m ∧ wob sg f kd bg b r g n m < 12 := by
  unfold wob
  split
  · omega
  · have key : ∀ (T : Int → Int) (k : Nat) (q gr bf : Int), 0 ≤ q → q + k ≤ n → -1 ≤ bf ∧ bf < 12 → -1 ≤ (gbf T k q gr bf).2 ∧ (gbf T k q gr bf).2 < 12 := by
      intro T k
      induction k with
      | zero => intro q gr bf _ _ h; exact h
      | succ k ih =>
        intro q gr bf h0 h1 h
        rw [gbf]
        split
        · exact ih _ _ _ (by omega) (by omega) (by omega)
        · exact ih _ _ _ (by omega) (by omega) h
    exact key _ n.toNat 0 (-4) (-1) (by omega) (by omega) (by omega)

theorem ok_X9_score : yX9_score.cls ≠ "java/lang/invoke/MethodHandle" ∧ yX9_score.cls ≠ "java/lang/invoke/VarHandle" ∧ (parseMethodDescriptor yX9_score.desc).map (fun d => d.parameters.length) = some 1 := ⟨by decide +kernel, by decide +kernel, by decide +kernel⟩
abbrev po_X9_score (S : St)  (x : Int) : Int → St → Prop := fun r S1 => (¬ (0 ≤ x ∧ x < S.1 51 0) ∧ r = -1 ∧ S1 = S) ∨ ((0 ≤ x ∧ x < S.1 51 0) ∧ S1.2 = S.2 ∧ (∀ (c_ : Nat) (i : Int), ¬ (30 ≤ c_ ∧ c_ < 46) → ¬ c_ = 60 → S1.1 c_ i = (skF S.1 (S.2 x.toNat) (scO S.1 (S.2 x.toNat)) (cdO S.1)).1 c_ i) ∧ r = (skF S.1 (S.2 x.toNat) (scO S.1 (S.2 x.toNat)) (cdO S.1)).2 ∧ nxi S1.1)
abbrev rm_X9_score : Room := ({ frames := 6, cells := 0, slots := 0, locals := 138 } : Room)
set_option maxRecDepth 100000 in
set_option maxHeartbeats 4000000 in
theorem k_X9_score (l : Launch) (G : Ge) (S : St)  (x : Int)  (hx : -2147483648 ≤ x ∧ x < 2147483648) (N_ : Int) (hI : CI S N_) : Ki (KC G) l yX9_score cX9_score 2 .int rm_X9_score [.ref (G.2.2 0), .int (iI x)] S (po_X9_score S x) := by
  refine K_start (own := "NameSeeker") (by decide +kernel) rfl (Nat.le_of_ble_eq_true rfl) ?_
  intro p e s m args below meth c X hr hlk I ls hl
  have hl : lv_has ls 2 [(0, .ref (G.2.2 0)), (1, .int (iI x))] := hl
  have hI0 := hI
  obtain ⟨ht, hc, hln, hsc, hcn, hpi, hinj, hnm, hwd, hkn, has, hnx⟩ := hI
  have hw0 : (0 ≤ S.1 8 0 ∧ S.1 8 0 ≤ 6) ∧ ∀ i : Int, 0 ≤ i → i < S.1 8 0 → ((97 ≤ S.1 (16 + 0) i ∧ S.1 (16 + 0) i ≤ 122) ∨ (65 ≤ S.1 (16 + 0) i ∧ S.1 (16 + 0) i ≤ 90)) := hwd 0 (by decide)
  have hSI0 : SI S.1 := ⟨hsc, by omega, hw0, hkn, hnx⟩
  refine lv_aload_n X.1 X.2.1 dX9_score_0 rfl (lv_at hl 0 rfl) ?_
  refine gC_ns_lot X I tb_378 dX9_score_1 ?_
  refine lv_iload_n X.1 X.2.1 dX9_score_4 rfl (lv_at hl 1 rfl) ?_
  refine cl_i I (runV (As := [.int (iI x)]) (rest := []) X (k_X3_has l G S  x (S.1 51 0) rfl (by omega) (by omega)) (gdC tb_425 (gdC tb_426 (gdC tb_427 (gdC tb_16 (gdC tb_428 gdB))))) ⟨ok_X3_has, ⟨Nat.le_of_ble_eq_true rfl, Nat.le_of_ble_eq_true rfl⟩, rfl, rfl⟩ (PreV.of (C := RX3) (T := TX3) (N := 3) I (atC_lot) rfl) rfl hl.1 rfl (Nat.le_of_ble_eq_true rfl) dX9_score_5 ⟨Nat.zero_le _, Nat.zero_le _⟩) (fun r1 S2 H locs q3 I => ?_)
  obtain ⟨e1_, e2_⟩ := q3
  rw [e2_] at I
  rw [e1_]
  clear e1_ e2_
  rcases Decidable.em ((0 ≤ x ∧ x < (S.1 51 0))) with b4 | b4
  · rw [bI_t b4]
    refine rz_eq (tgt := 27) X (by omega) dX9_score_8 (by decide) (fun c5 => absurd c5 (by decide)) (fun _ => ?_)
    have hnx_ := hnm x (by omega) (by omega)
    obtain ⟨hn1, hn2, hn3, hn4, hn5, hn6, hn7⟩ := id hnx_
    refine lv_aload_n X.1 X.2.1 dX9_score_11 rfl (lv_at hl 0 rfl) ?_
    refine lv_aload_n X.1 X.2.1 dX9_score_12 rfl (lv_at hl 0 rfl) ?_
    refine gC_ns_lot X I tb_378 dX9_score_13 ?_
    refine gC_lot_names X I tb_99 dX9_score_16 ?_
    refine lv_iload_n X.1 X.2.1 dX9_score_19 rfl (lv_at hl 1 rfl) ?_
    refine aC_names X I (by omega) dX9_score_20 ?_
    refine cl_i I (runV (As := [.ref (G.2.2 (41 + 2 * S.2 x.toNat))]) (rest := []) X (k_X9_seekScore l G S ((S.2 x.toNat)) (S.1 2 (((S.2 x.toNat) : Nat) : Int)) (S.1 3 (((S.2 x.toNat) : Nat) : Int)) (S.1 6 (((S.2 x.toNat) : Nat) : Int)) (S.1 (20 + (S.2 x.toNat))) (S.1 8 0) (S.1 (16 + 0)) (S.1 53 0) (S.1 54 0) (S.1 55 0) rfl rfl rfl (fun i_ => rfl) rfl (fun i_ => rfl) rfl rfl rfl hSI0 (hpi _ (by omega)) hnx_) (gdC tb_542 (gdC tb_544 (gdC tb_6 (gdC tb_14 (gdC tb_545 gdB))))) ⟨ok_X9_seekScore, ⟨Nat.le_of_ble_eq_true rfl, Nat.le_of_ble_eq_true rfl⟩, rfl, rfl⟩ (PreV.of (C := RX9) (T := TX9) (N := 14) I (atC_ns) rfl) rfl hl.1 rfl (Nat.le_of_ble_eq_true rfl) dX9_score_21 ⟨Nat.zero_le _, Nat.zero_le _⟩) (fun r6 S7 H locs q8 I => ?_)
    obtain ⟨hA2, hA, e1_, hAn⟩ := q8
    rw [e1_]
    obtain ⟨V1, V2⟩ := S7
    dsimp only at hA2 hA hAn
    subst hA2
    have hrr := skF_r (sc := (wor (S.1 (20 + (S.2 x.toNat))) (S.1 (16 + 0)) (S.1 3 (((S.2 x.toNat) : Nat) : Int)) (S.1 6 (((S.2 x.toNat) : Nat) : Int)) (S.1 53 0) (S.1 54 0) (S.1 55 0) (S.1 2 (((S.2 x.toNat) : Nat) : Int)) (S.1 8 0))) (code := (cdv (S.1 (16 + 0)) ((S.1 8 0)).toNat)) (F := S.1) (j := (S.2 x.toNat)) hSI0 (wor_r (by omega) (by omega) (by omega) (by omega) (by omega))
    refine lv_goto (tgt := 28) X.1 X.2.1 dX9_score_24 (by decide) ?_
    exact rt_i X hr hlk I rfl (by first | exact Or.inl ⟨by assumption, rfl, rfl⟩ | exact Or.inr ⟨by assumption, rfl, hA, rfl, hAn⟩) dX9_score_28
  · rw [bI_f b4]
    refine rz_eq (tgt := 27) X (by omega) dX9_score_8 (by decide) (fun _ => ?_) (fun c9 => absurd c9 (fun q => q (by decide)))
    refine ri_const X (v := (-1)) dX9_score_27 ?_
    exact rt_i X hr hlk I rfl (by first | exact Or.inl ⟨by assumption, rfl, rfl⟩ | exact Or.inr ⟨by assumption, rfl, hA, rfl, hAn⟩) dX9_score_28

theorem ok_X9_seekScores : yX9_seekScores.cls ≠ "java/lang/invoke/MethodHandle" ∧ yX9_seekScores.cls ≠ "java/lang/invoke/VarHandle" ∧ (parseMethodDescriptor yX9_seekScores.desc).map (fun d => d.parameters.length) = some 0 := ⟨by decide +kernel, by decide +kernel, by decide +kernel⟩
abbrev po_X9_seekScores (S : St)   : St → Prop := fun S1 => S1.2 = S.2 ∧ (∀ (c_ : Nat) (i : Int), ¬ (30 ≤ c_ ∧ c_ < 46) → ¬ c_ = 60 → S1.1 c_ i = skA S.1 S.2 (S.1 51 0).toNat c_ i) ∧ SI S1.1 ∧ (∀ i : Int, 0 ≤ i → i < S.1 51 0 → -1000 ≤ S1.1 15 i ∧ S1.1 15 i ≤ 1000) ∧ (∀ (c_ : Nat) (i : Int), ¬ (10 ≤ c_ ∧ c_ < 14) → ¬ c_ = 15 → ¬ c_ = 61 → ¬ c_ = 62 → ¬ (30 ≤ c_ ∧ c_ < 46) → ¬ c_ = 60 → S1.1 c_ i = S.1 c_ i)
abbrev rm_X9_seekScores : Room := ({ frames := 6, cells := 0, slots := 0, locals := 138 } : Room)
set_option maxRecDepth 100000 in
set_option maxHeartbeats 4000000 in
theorem k_X9_seekScores (l : Launch) (G : Ge) (S : St)    (N_ : Int) (hI : CI S N_) : Kv (KC G) l yX9_seekScores cX9_seekScores 2 rm_X9_seekScores [.ref (G.2.2 0)] S (po_X9_seekScores S) := by
  refine K_start (own := "NameSeeker") (by decide +kernel) rfl (Nat.le_of_ble_eq_true rfl) ?_
  intro p e s m args below meth c X hr hlk I ls hl
  have hl : lv_has ls 2 [(0, .ref (G.2.2 0))] := hl
  have hI0 := hI
  obtain ⟨ht, hc, hln, hsc, hcn, hpi, hinj, hnm, hwd, hkn, has, hnx⟩ := hI
  have hw0 : (0 ≤ S.1 8 0 ∧ S.1 8 0 ≤ 6) ∧ ∀ i : Int, 0 ≤ i → i < S.1 8 0 → ((97 ≤ S.1 (16 + 0) i ∧ S.1 (16 + 0) i ≤ 122) ∨ (65 ≤ S.1 (16 + 0) i ∧ S.1 (16 + 0) i ≤ 90)) := hwd 0 (by decide)
  have hSI0 : SI S.1 := ⟨hsc, by omega, hw0, hkn, hnx⟩
  refine ri_const X (v := 0) dX9_seekScores_0 ?_
  refine lv_istore_n (lv' := [(1, .int (iI 0)), (0, .ref (G.2.2 0))]) X.1 X.2.1 dX9_seekScores_1 rfl hl (by decide) rfl (fun ls hl => ?_)
  have lp_2 : ∀ (fu_ : Nat) (n : Int) (U : Nat → Int → Int), (8 - n).toNat < fu_ → ∀ (hn : 0 ≤ n ∧ n ≤ S.1 51 0) (hfr : ∀ (c_ : Nat) (i : Int), ¬ (10 ≤ c_ ∧ c_ < 14) → ¬ c_ = 15 → ¬ c_ = 61 → ¬ c_ = 62 → ¬ (30 ≤ c_ ∧ c_ < 46) → ¬ c_ = 60 → U c_ i = S.1 c_ i) (hsk : ∀ (c_ : Nat) (i : Int), ¬ (30 ≤ c_ ∧ c_ < 46) → ¬ c_ = 60 → U c_ i = skA S.1 S.2 n.toNat c_ i) (hSI : SI U) (hsr : ∀ i : Int, 0 ≤ i → i < n → -1000 ≤ U 15 i ∧ U 15 i ≤ 1000) (H : Heap) (locs : List Loc), In (KC G) s s.heap H locs (U, S.2) → ∀ ls : Array Slot, lv_has ls 2 [(0, .ref (G.2.2 0)), (1, .int (iI n))] → W p l e rm_X9_seekScores s m args below meth c H locs 0 0 (MQ below (QV (KC G) (po_X9_seekScores S)) args s 0 0 (KC G).2.2.2) (F0 m 2 ls []) := by
    intro fu_
    induction fu_ with
    | zero => intro n U hm; exact absurd hm (by omega)
    | succ fu_ ih_2 =>
      intro n U hm_2 hn hfr hsk hSI hsr H locs I ls hl
      refine lv_iload_n X.1 X.2.1 dX9_seekScores_2 rfl (lv_at hl 1 rfl) ?_
      refine lv_aload_n X.1 X.2.1 dX9_seekScores_3 rfl (lv_at hl 0 rfl) ?_
      refine gC_ns_lot X I tb_378 dX9_seekScores_4 ?_
      refine gC_lot_size X I (v := (S.1 51 0)) (hfr 51 0 (by omega) (by omega) (by omega) (by omega) (by omega) (by omega)) tb_102 dX9_seekScores_7 ?_
      refine rj_ge (tgt := 65) X (by omega) (by omega) dX9_seekScores_10 (by decide) (fun c1 => ?_) (fun c1 => ?_)
      · skip
        exact rt_v X hr hlk I (by exact ⟨rfl, by rw [show (S.1 51 0).toNat = n.toNat by omega]; exact hsk, hSI, fun i h1 h2 => hsr i h1 (by omega), hfr⟩) dX9_seekScores_65
      · skip
        have hpn := hpi n.toNat (by omega)
        have hnx_ := hnm n (by omega) (by omega)
        obtain ⟨hn1, hn2, hn3, hn4, hn5, hn6, hn7⟩ := id hnx_
        have hnU : NmOK U (S.2 n.toNat) := NmOK_fr (fun c_ i h => hfr c_ i (by omega) (by omega) (by omega) (by omega) (by omega) (by omega)) (hpi _ (by omega)) hnx_
        refine lv_aload_n X.1 X.2.1 dX9_seekScores_13 rfl (lv_at hl 0 rfl) ?_
        refine gC_ns_ranking X I tb_386 dX9_seekScores_14 ?_
        refine gC_ranking_scores X I tb_222 dX9_seekScores_17 ?_
        refine lv_iload_n X.1 X.2.1 dX9_seekScores_20 rfl (lv_at hl 1 rfl) ?_
        refine lv_aload_n X.1 X.2.1 dX9_seekScores_21 rfl (lv_at hl 0 rfl) ?_
        refine gC_ns_lot X I tb_378 dX9_seekScores_22 ?_
        refine gC_lot_names X I tb_99 dX9_seekScores_25 ?_
        refine lv_iload_n X.1 X.2.1 dX9_seekScores_28 rfl (lv_at hl 1 rfl) ?_
        refine aC_names X I (by omega) dX9_seekScores_29 ?_
        refine lv_aload_n X.1 X.2.1 dX9_seekScores_30 rfl (lv_at hl 0 rfl) ?_
        refine gC_ns_typed X I tb_380 dX9_seekScores_31 ?_
        refine cl_i I (runV (As := [.ref (G.2.2 (6 + 2 * 0))]) (rest := [.int (iI n), .ref (G.2.2 39)]) X (k_X4_hasAll l G (U, S.2) ((S.2 n.toNat)) (0) (S.1 8 0) (S.1 (16 + 0)) (S.1 7 (((S.2 n.toNat) : Nat) : Int)) (hfr 8 0 (by omega) (by omega) (by omega) (by omega) (by omega) (by omega)) (fun i_ => (hfr (16 + 0) i_ (by omega) (by omega) (by omega) (by omega) (by omega) (by omega))) (hfr 7 (((S.2 n.toNat) : Nat) : Int) (by omega) (by omega) (by omega) (by omega) (by omega) (by omega)) (hpi _ (by omega)) hn6 (by omega) hw0.1 hw0.2) (gdC tb_453 (gdC tb_454 (gdC tb_455 (gdC tb_17 (gdC tb_456 gdB))))) ⟨ok_X4_hasAll, ⟨Nat.le_of_ble_eq_true rfl, Nat.le_of_ble_eq_true rfl⟩, rfl, rfl⟩ (PreV.of (C := RX4) (T := TX4) (N := 7) I (atC_name (j := (S.2 n.toNat)) (by first | omega | exact hpi _ (by omega))) rfl) rfl hl.1 rfl (Nat.le_of_ble_eq_true rfl) dX9_seekScores_34 ⟨Nat.zero_le _, Nat.zero_le _⟩) (fun r2 S3 H locs q4 I => ?_)
        obtain ⟨e1_, e2_⟩ := q4
        rw [e2_] at I
        rw [e1_]
        clear e1_ e2_
        rcases Decidable.em (bandn (wlb (S.1 (16 + 0)) ((S.1 8 0)).toNat) (S.1 7 (((S.2 n.toNat) : Nat) : Int)) = 0) with b5 | b5
        · rw [bI_t b5]
          refine rz_eq (tgt := 56) X (by omega) dX9_seekScores_37 (by decide) (fun c6 => absurd c6 (by decide)) (fun _ => ?_)
          refine lv_aload_n X.1 X.2.1 dX9_seekScores_40 rfl (lv_at hl 0 rfl) ?_
          refine lv_aload_n X.1 X.2.1 dX9_seekScores_41 rfl (lv_at hl 0 rfl) ?_
          refine gC_ns_lot X I tb_378 dX9_seekScores_42 ?_
          refine gC_lot_names X I tb_99 dX9_seekScores_45 ?_
          refine lv_iload_n X.1 X.2.1 dX9_seekScores_48 rfl (lv_at hl 1 rfl) ?_
          refine aC_names X I (by omega) dX9_seekScores_49 ?_
          refine cl_i I (runV (As := [.ref (G.2.2 (41 + 2 * S.2 n.toNat))]) (rest := [.int (iI n), .ref (G.2.2 39)]) X (k_X9_seekScore l G (U, S.2) ((S.2 n.toNat)) (S.1 2 (((S.2 n.toNat) : Nat) : Int)) (S.1 3 (((S.2 n.toNat) : Nat) : Int)) (S.1 6 (((S.2 n.toNat) : Nat) : Int)) (S.1 (20 + (S.2 n.toNat))) (S.1 8 0) (S.1 (16 + 0)) (S.1 53 0) (S.1 54 0) (S.1 55 0) (hfr 2 (((S.2 n.toNat) : Nat) : Int) (by omega) (by omega) (by omega) (by omega) (by omega) (by omega)) (hfr 3 (((S.2 n.toNat) : Nat) : Int) (by omega) (by omega) (by omega) (by omega) (by omega) (by omega)) (hfr 6 (((S.2 n.toNat) : Nat) : Int) (by omega) (by omega) (by omega) (by omega) (by omega) (by omega)) (fun i_ => (hfr (20 + (S.2 n.toNat)) i_ (by omega) (by omega) (by omega) (by omega) (by omega) (by omega))) (hfr 8 0 (by omega) (by omega) (by omega) (by omega) (by omega) (by omega)) (fun i_ => (hfr (16 + 0) i_ (by omega) (by omega) (by omega) (by omega) (by omega) (by omega))) (hfr 53 0 (by omega) (by omega) (by omega) (by omega) (by omega) (by omega)) (hfr 54 0 (by omega) (by omega) (by omega) (by omega) (by omega) (by omega)) (hfr 55 0 (by omega) (by omega) (by omega) (by omega) (by omega) (by omega)) hSI (hpi _ (by omega)) hnU) (gdC tb_542 (gdC tb_544 (gdC tb_6 (gdC tb_14 (gdC tb_545 gdB))))) ⟨ok_X9_seekScore, ⟨Nat.le_of_ble_eq_true rfl, Nat.le_of_ble_eq_true rfl⟩, rfl, rfl⟩ (PreV.of (C := RX9) (T := TX9) (N := 14) I (atC_ns) rfl) rfl hl.1 rfl (Nat.le_of_ble_eq_true rfl) dX9_seekScores_50 ⟨Nat.zero_le _, Nat.zero_le _⟩) (fun r7 S8 H locs q9 I => ?_)
          obtain ⟨hA2, hA, e1_, hAn⟩ := q9
          rw [e1_]
          obtain ⟨V1, V2⟩ := S8
          dsimp only at hA2 hA hAn
          subst hA2
          have hrr := skF_r (sc := (wor (S.1 (20 + (S.2 n.toNat))) (S.1 (16 + 0)) (S.1 3 (((S.2 n.toNat) : Nat) : Int)) (S.1 6 (((S.2 n.toNat) : Nat) : Int)) (S.1 53 0) (S.1 54 0) (S.1 55 0) (S.1 2 (((S.2 n.toNat) : Nat) : Int)) (S.1 8 0))) (code := (cdv (S.1 (16 + 0)) ((S.1 8 0)).toNat)) (F := U) (j := (S.2 n.toNat)) hSI (wor_r (by omega) (by omega) (by omega) (by omega) (by omega))
          refine lv_goto (tgt := 58) X.1 X.2.1 dX9_seekScores_53 (by decide) ?_
          refine qC_rscores X I (by omega) dX9_seekScores_58 (fun H locs I => ?_)
          have I : In (KC G) s s.heap H locs ((ua V1 15 n (skF U (S.2 n.toNat) (wor (S.1 (20 + (S.2 n.toNat))) (S.1 (16 + 0)) (S.1 3 (((S.2 n.toNat) : Nat) : Int)) (S.1 6 (((S.2 n.toNat) : Nat) : Int)) (S.1 53 0) (S.1 54 0) (S.1 55 0) (S.1 2 (((S.2 n.toNat) : Nat) : Int)) (S.1 8 0)) (cdv (S.1 (16 + 0)) ((S.1 8 0)).toNat)).2), S.2) := I
          refine ri_iinc X (k := 1) (v := (n + 1)) (lv' := [(1, .int (iI (n + 1))), (0, .ref (G.2.2 0))]) rfl dX9_seekScores_59 hl rfl (by decide) rfl (fun ls hl => ?_)
          refine lv_goto (tgt := 2) X.1 X.2.1 dX9_seekScores_62 (by decide) ?_
          exact ih_2 (n + 1) (ua V1 15 n (skF U (S.2 n.toNat) (wor (S.1 (20 + (S.2 n.toNat))) (S.1 (16 + 0)) (S.1 3 (((S.2 n.toNat) : Nat) : Int)) (S.1 6 (((S.2 n.toNat) : Nat) : Int)) (S.1 53 0) (S.1 54 0) (S.1 55 0) (S.1 2 (((S.2 n.toNat) : Nat) : Int)) (S.1 8 0)) (cdv (S.1 (16 + 0)) ((S.1 8 0)).toNat)).2) (by omega) (by omega) (fun c_ i h1 h2 h3 h4 h5 h6 => by first | exact (ua_nc h2).trans (hfr c_ i h1 h2 h3 h4 h5 h6) | exact (ua_nc h2).trans ((hA c_ i h5 h6).trans ((skF_fr h1 h3 h4).trans (hfr c_ i h1 h2 h3 h4 h5 h6)))) (by first | exact skA_n (by omega) hsk (by assumption) | exact skA_y (by omega) hsk (by assumption) hA) (by first | exact SI_15 hSI | exact SI_15 (SI_sk hSI (by have h := hnU.2.2.1; exact h) (wor_r (by omega) (by omega) (by omega) (by omega) (by omega)) (cdv_r _ (by omega) (fun i h1 h2 => hw0.2 i h1 (by omega))) hA hAn)) (fun i h1 h2 => if hi : i = n then (by rw [hi, ua_eq]; omega) else (by rw [ua_ni hi]; first | exact hsr i h1 (by omega) | (rw [hA 15 i (by decide) (by decide), skF_fr (by decide) (by decide) (by decide)]; exact hsr i h1 (by omega)))) _ _ I ls (lv_sub hl [1, 0] rfl)
        · rw [bI_f b5]
          refine rz_eq (tgt := 56) X (by omega) dX9_seekScores_37 (by decide) (fun _ => ?_) (fun c10 => absurd c10 (fun q => q (by decide)))
          refine ri_push X (v := (-4)) (by decide) dX9_seekScores_56 ?_
          refine qC_rscores X I (by omega) dX9_seekScores_58 (fun H locs I => ?_)
          have I : In (KC G) s s.heap H locs ((ua U 15 n (-4)), S.2) := I
          refine ri_iinc X (k := 1) (v := (n + 1)) (lv' := [(1, .int (iI (n + 1))), (0, .ref (G.2.2 0))]) rfl dX9_seekScores_59 hl rfl (by decide) rfl (fun ls hl => ?_)
          refine lv_goto (tgt := 2) X.1 X.2.1 dX9_seekScores_62 (by decide) ?_
          exact ih_2 (n + 1) (ua U 15 n (-4)) (by omega) (by omega) (fun c_ i h1 h2 h3 h4 h5 h6 => by first | exact (ua_nc h2).trans (hfr c_ i h1 h2 h3 h4 h5 h6) | exact (ua_nc h2).trans ((hA c_ i h5 h6).trans ((skF_fr h1 h3 h4).trans (hfr c_ i h1 h2 h3 h4 h5 h6)))) (by first | exact skA_n (by omega) hsk (by assumption) | exact skA_y (by omega) hsk (by assumption) hA) (by first | exact SI_15 hSI | exact SI_15 (SI_sk hSI (by have h := hnU.2.2.1; exact h) (wor_r (by omega) (by omega) (by omega) (by omega) (by omega)) (cdv_r _ (by omega) (fun i h1 h2 => hw0.2 i h1 (by omega))) hA hAn)) (fun i h1 h2 => if hi : i = n then (by rw [hi, ua_eq]; omega) else (by rw [ua_ni hi]; first | exact hsr i h1 (by omega) | (rw [hA 15 i (by decide) (by decide), skF_fr (by decide) (by decide) (by decide)]; exact hsr i h1 (by omega)))) _ _ I ls (lv_sub hl [1, 0] rfl)
  exact lp_2 (9) 0 S.1 (by omega) (by omega) (fun _ _ _ _ _ _ _ _ => rfl) (fun _ _ _ _ => rfl) (hSI0) (fun i h1 h2 => absurd h2 (by omega)) _ _ I ls (lv_sub hl [1, 0] rfl)

theorem ok_X9_list : yX9_list.cls ≠ "java/lang/invoke/MethodHandle" ∧ yX9_list.cls ≠ "java/lang/invoke/VarHandle" ∧ (parseMethodDescriptor yX9_list.desc).map (fun d => d.parameters.length) = some 1 := ⟨by decide +kernel, by decide +kernel, by decide +kernel⟩
abbrev po_X9_list (S : St)  (x : Int) : Int → St → Prop := fun r S1 => (x < -1 ∧ r = -1 ∧ S1 = S) ∨ (-1 ≤ x ∧ ∃ W1 : Nat → Int → Int, (∀ (c_ : Nat) (i : Int), ¬ (30 ≤ c_ ∧ c_ < 46) → ¬ c_ = 60 → ¬ c_ = 29 → ¬ c_ = 64 → W1 c_ i = skA S.1 S.2 (S.1 51 0).toNat c_ i) ∧ rkI W1 S.2 (S.1 51 0) ∧ nxi W1 ∧ ((x = -1 ∧ r = W1 64 0 ∧ S1 = (askF W1 (cdO S.1), S.2)) ∨ (0 ≤ x ∧ r = (if x < W1 64 0 then W1 29 x else -4) ∧ S1 = (W1, S.2))))
abbrev rm_X9_list : Room := ({ frames := 7, cells := 0, slots := 0, locals := 159 } : Room)
set_option maxRecDepth 100000 in
set_option maxHeartbeats 4000000 in
theorem k_X9_list (l : Launch) (G : Ge) (S : St)  (x : Int)  (hx : -2147483648 ≤ x ∧ x < 2147483648) (N_ : Int) (hI : CI S N_) : Ki (KC G) l yX9_list cX9_list 2 .int rm_X9_list [.ref (G.2.2 0), .int (iI x)] S (po_X9_list S x) := by
  refine K_start (own := "NameSeeker") (by decide +kernel) rfl (Nat.le_of_ble_eq_true rfl) ?_
  intro p e s m args below meth c X hr hlk I ls hl
  have hl : lv_has ls 2 [(0, .ref (G.2.2 0)), (1, .int (iI x))] := hl
  have hI0 := hI
  obtain ⟨ht, hc, hln, hsc, hcn, hpi, hinj, hnm, hwd, hkn, has, hnx⟩ := hI
  have hw0 : (0 ≤ S.1 8 0 ∧ S.1 8 0 ≤ 6) ∧ ∀ i : Int, 0 ≤ i → i < S.1 8 0 → ((97 ≤ S.1 (16 + 0) i ∧ S.1 (16 + 0) i ≤ 122) ∨ (65 ≤ S.1 (16 + 0) i ∧ S.1 (16 + 0) i ≤ 90)) := hwd 0 (by decide)
  have hSI0 : SI S.1 := ⟨hsc, by omega, hw0, hkn, hnx⟩
  refine lv_iload_n X.1 X.2.1 dX9_list_0 rfl (lv_at hl 1 rfl) ?_
  refine ri_const X (v := (-1)) dX9_list_1 ?_
  refine rj_ge (tgt := 7) X (by omega) (by omega) dX9_list_2 (by decide) (fun c1 => ?_) (fun c1 => ?_)
  · skip
    refine lv_aload_n X.1 X.2.1 dX9_list_7 rfl (lv_at hl 0 rfl) ?_
    refine cl_v I (runV (As := []) (rest := []) X (k_X9_seekScores l G S    N_ hI0) (gdC tb_613 (gdC tb_615 (gdC tb_9 (gdC tb_14 (gdC tb_616 gdB))))) ⟨ok_X9_seekScores, ⟨Nat.le_of_ble_eq_true rfl, Nat.le_of_ble_eq_true rfl⟩, rfl, rfl⟩ (PreV.of (C := RX9) (T := TX9) (N := 14) I (atC_ns) rfl) rfl hl.1 rfl (Nat.le_of_ble_eq_true rfl) dX9_list_8 ⟨Nat.zero_le _, Nat.zero_le _⟩) (fun S3 H locs q4 I => ?_)
    obtain ⟨hA2, hA, hASI, hAs, hAfr⟩ := q4
    obtain ⟨V1, V2⟩ := S3
    dsimp only at hA2 hA hASI hAs hAfr
    subst hA2
    refine lv_aload_n X.1 X.2.1 dX9_list_11 rfl (lv_at hl 0 rfl) ?_
    refine gC_ns_ranking X I tb_386 dX9_list_12 ?_
    refine lv_aload_n X.1 X.2.1 dX9_list_15 rfl (lv_at hl 0 rfl) ?_
    refine gC_ns_lot X I tb_378 dX9_list_16 ?_
    refine cl_v I (runV (As := [.ref (G.2.2 3)]) (rest := []) X (k_X5_rank l G (V1, S.2)  (S.1 51 0) (hAfr 51 0 (by omega) (by omega) (by omega) (by omega) (by omega) (by omega)) (by omega) (fun i h1 h2 => by
    obtain ⟨q1, q2, q3, q4, q5, q6, q7⟩ := hnm i h1 h2
    refine ⟨hpi _ (by omega), hAs i h1 h2, ?_, ?_⟩
    · show 0 ≤ V1 5 _ ∧ V1 5 _ ≤ 100000
      rw [hAfr 5 _ (by omega) (by omega) (by omega) (by omega) (by omega) (by omega)]; exact q4
    · show 0 ≤ V1 2 _ ∧ V1 2 _ ≤ 12
      rw [hAfr 2 _ (by omega) (by omega) (by omega) (by omega) (by omega) (by omega)]; exact ⟨Int.le_trans (by decide) q1.1, q1.2⟩)) (gdC tb_617 (gdC tb_618 (gdC tb_619 (gdC tb_23 (gdC tb_620 gdB))))) ⟨ok_X5_rank, ⟨Nat.le_of_ble_eq_true rfl, Nat.le_of_ble_eq_true rfl⟩, rfl, rfl⟩ (PreV.of (C := RX5) (T := TX5) (N := 3) I (atC_ranking) rfl) rfl hl.1 rfl (Nat.le_of_ble_eq_true rfl) dX9_list_19 ⟨Nat.zero_le _, Nat.zero_le _⟩) (fun S6 H locs q7 I => ?_)
    obtain ⟨hB2, hBf, hBr⟩ := q7
    obtain ⟨W1, W2⟩ := S6
    dsimp only at hB2 hBf hBr
    subst hB2
    have hB0 := hBr.1
    have hB1 := hBr.2.1
    refine lv_iload_n X.1 X.2.1 dX9_list_22 rfl (lv_at hl 1 rfl) ?_
    refine ri_const X (v := (-1)) dX9_list_23 ?_
    refine rj_ne (tgt := 49) X (by omega) (by omega) dX9_list_24 (by decide) (fun c8 => ?_) (fun c8 => ?_)
    · skip
      refine lv_iload_n X.1 X.2.1 dX9_list_49 rfl (lv_at hl 1 rfl) ?_
      refine lv_aload_n X.1 X.2.1 dX9_list_50 rfl (lv_at hl 0 rfl) ?_
      refine gC_ns_ranking X I tb_386 dX9_list_51 ?_
      refine gC_ranking_size X I (v := (W1 64 0)) rfl tb_226 dX9_list_54 ?_
      refine rj_ge (tgt := 72) X (by omega) (by omega) dX9_list_57 (by decide) (fun c9 => ?_) (fun c9 => ?_)
      · skip
        refine ri_push X (v := (-4)) (by decide) dX9_list_72 ?_
        exact rt_i X hr hlk I rfl (by exact Or.inr (⟨by omega, W1, fun c_ i h1 h2 h3 h4 => (hBf c_ i h3 h4).trans (hA c_ i h1 h2), hBr, fun k q h1 h2 h3 => by rw [hBf _ q (by omega) (by omega)]; exact hASI.2.2.2.2 k q h1 h2 h3, Or.inr ⟨by omega, by first | rw [if_pos (by omega)] | rw [if_neg (by omega)], rfl⟩⟩)) dX9_list_74
      · skip
        refine lv_aload_n X.1 X.2.1 dX9_list_60 rfl (lv_at hl 0 rfl) ?_
        refine gC_ns_ranking X I tb_386 dX9_list_61 ?_
        refine gC_ranking_numbers X I tb_224 dX9_list_64 ?_
        refine lv_iload_n X.1 X.2.1 dX9_list_67 rfl (lv_at hl 1 rfl) ?_
        refine aC_numbers X I (v := (W1 29 x)) rfl (by omega) dX9_list_68 ?_
        refine lv_goto (tgt := 74) X.1 X.2.1 dX9_list_69 (by decide) ?_
        exact rt_i X hr hlk I rfl (by exact Or.inr (⟨by omega, W1, fun c_ i h1 h2 h3 h4 => (hBf c_ i h3 h4).trans (hA c_ i h1 h2), hBr, fun k q h1 h2 h3 => by rw [hBf _ q (by omega) (by omega)]; exact hASI.2.2.2.2 k q h1 h2 h3, Or.inr ⟨by omega, by first | rw [if_pos (by omega)] | rw [if_neg (by omega)], rfl⟩⟩)) dX9_list_74
    · skip
      refine lv_aload_n X.1 X.2.1 dX9_list_27 rfl (lv_at hl 0 rfl) ?_
      refine gC_ns_askedCodes X I tb_385 dX9_list_28 ?_
      refine lv_aload_n X.1 X.2.1 dX9_list_31 rfl (lv_at hl 0 rfl) ?_
      refine gC_ns_typed X I tb_380 dX9_list_32 ?_
      refine cl_l I (runV (As := []) (rest := [.ref (G.2.2 36)]) X (k_X8_code l G (W1, S.2) (0) (S.1 8 0) (S.1 (16 + 0)) ((hBf 8 0 (by omega) (by omega)).trans (hAfr 8 0 (by omega) (by omega) (by omega) (by omega) (by omega) (by omega))) (fun i_ => ((hBf (16 + 0) i_ (by omega) (by omega)).trans (hAfr (16 + 0) i_ (by omega) (by omega) (by omega) (by omega) (by omega) (by omega)))) (by decide) hw0.1 hw0.2) (gdC tb_474 (gdC tb_475 (gdC tb_476 (gdC tb_19 (gdC tb_477 gdB))))) ⟨ok_X8_code, ⟨Nat.le_of_ble_eq_true rfl, Nat.le_of_ble_eq_true rfl⟩, rfl, rfl⟩ (PreV.of (C := RX8) (T := TX8) (N := 2) I (atC_word (w := 0) (by decide)) rfl) rfl hl.1 rfl (Nat.le_of_ble_eq_true rfl) dX9_list_35 ⟨Nat.zero_le _, Nat.zero_le _⟩) (fun r10 S11 H locs q12 I => ?_)
      obtain ⟨e1_, e2_⟩ := q12
      rw [e2_] at I
      rw [e1_]
      clear e1_ e2_
      have hcr := cdv_r (f := (S.1 (16 + 0))) ((S.1 8 0)).toNat (by omega) (fun i h1 h2 => hw0.2 i h1 (by omega))
      refine cl_v I (runV (As := [.long (lI (cdv (S.1 (16 + 0)) ((S.1 8 0)).toNat))]) (rest := []) X (k_X0_add l G (W1, S.2)  (cdv (S.1 (16 + 0)) ((S.1 8 0)).toNat)  (by show 0 ≤ W1 63 0 ∧ W1 63 0 ≤ 6; rw [hBf 63 0 (by omega) (by omega), hAfr 63 0 (by omega) (by omega) (by omega) (by omega) (by omega) (by omega)]; omega)) (gdC tb_629 (gdC tb_630 (gdC tb_631 (gdC tb_22 (gdC tb_632 gdB))))) ⟨ok_X0_add, ⟨Nat.le_of_ble_eq_true rfl, Nat.le_of_ble_eq_true rfl⟩, rfl, rfl⟩ (PreV.of (C := RX0) (T := TX0) (N := 2) I (atC_asked) rfl) rfl hl.1 rfl (Nat.le_of_ble_eq_true rfl) dX9_list_38 ⟨Nat.zero_le _, Nat.zero_le _⟩) (fun S14 H locs q15 I => ?_)
      rw [q15] at I
      have I : In (KC G) s s.heap H locs ((us (ua (ua (ua (ua (ua (ua W1 14 5 (W1 14 4)) 14 4 (W1 14 3)) 14 3 (W1 14 2)) 14 2 (W1 14 1)) 14 1 (W1 14 0)) 14 0 (cdv (S.1 (16 + 0)) ((S.1 8 0)).toNat)) 63 (if 6 < ((W1 63 0) + 1) then 6 else ((W1 63 0) + 1))), S.2) := I
      refine lv_aload_n X.1 X.2.1 dX9_list_41 rfl (lv_at hl 0 rfl) ?_
      refine gC_ns_ranking X I tb_386 dX9_list_42 ?_
      refine gC_ranking_size X I (v := (W1 64 0)) (by show (us (ua (ua (ua (ua (ua (ua W1 14 5 (W1 14 4)) 14 4 (W1 14 3)) 14 3 (W1 14 2)) 14 2 (W1 14 1)) 14 1 (W1 14 0)) 14 0 (cdv (S.1 (16 + 0)) ((S.1 8 0)).toNat)) 63 (if 6 < ((W1 63 0) + 1) then 6 else ((W1 63 0) + 1))) 64 0 = _; rw [us_nc (by decide), ua_nc (by decide), ua_nc (by decide), ua_nc (by decide), ua_nc (by decide), ua_nc (by decide), ua_nc (by decide)]) tb_226 dX9_list_45 ?_
      exact rt_i X hr hlk I rfl (by exact Or.inr (⟨by omega, W1, fun c_ i h1 h2 h3 h4 => (hBf c_ i h3 h4).trans (hA c_ i h1 h2), hBr, fun k q h1 h2 h3 => by rw [hBf _ q (by omega) (by omega)]; exact hASI.2.2.2.2 k q h1 h2 h3, Or.inl ⟨by omega, rfl, rfl⟩⟩)) dX9_list_48
  · skip
    refine ri_const X (v := (-1)) dX9_list_5 ?_
    exact rt_i X hr hlk I rfl (by exact Or.inl ⟨by omega, rfl, rfl⟩) dX9_list_6

theorem ok_X9_best : yX9_best.cls ≠ "java/lang/invoke/MethodHandle" ∧ yX9_best.cls ≠ "java/lang/invoke/VarHandle" ∧ (parseMethodDescriptor yX9_best.desc).map (fun d => d.parameters.length) = some 2 := ⟨by decide +kernel, by decide +kernel, by decide +kernel⟩
abbrev po_X9_best (S : St)  (x : Int) (u : Int) : Int → St → Prop := fun r S1 => S1.2 = S.2 ∧ (∀ (c_ : Nat) (i : Int), (c_ < 30 ∨ 46 ≤ c_) → ¬ c_ = 60 → S1.1 c_ i = S.1 c_ i) ∧ nxi S1.1 ∧ (((¬ (0 ≤ x ∧ x < S.1 51 0) ∨ u < 0) ∧ r = -1) ∨ ((0 ≤ x ∧ x < S.1 51 0) ∧ 0 ≤ u ∧ (S.1 8 0 ≤ u ∨ scO S.1 (S.2 x.toNat) = -4) ∧ r = -4) ∨ ((0 ≤ x ∧ x < S.1 51 0) ∧ 0 ≤ u ∧ u < S.1 8 0 ∧ ¬ scO S.1 (S.2 x.toNat) = -4 ∧ (∀ k : Int, 0 ≤ k → k < S.1 8 0 → ∀ i : Int, 0 ≤ i → i < S.1 2 (((S.2 x.toNat) : Nat) : Int) → S1.1 (40 + k.toNat) i = (tlr (S.1 (20 + (S.2 x.toNat))) (S.1 (16 + 0)) (S.1 3 (((S.2 x.toNat) : Nat) : Int)) (S.1 6 (((S.2 x.toNat) : Nat) : Int)) (S.1 53 0) (S.1 54 0) (S.1 55 0) (S.1 2 (((S.2 x.toNat) : Nat) : Int)) (S.1 8 0) (S.1 8 0 - 1 - k).toNat i).2) ∧ r = (if bpw S1.1 (wob (S.1 (20 + (S.2 x.toNat))) (S.1 (16 + 0)) (S.1 3 (((S.2 x.toNat) : Nat) : Int)) (S.1 6 (((S.2 x.toNat) : Nat) : Int)) (S.1 53 0) (S.1 54 0) (S.1 55 0) (S.1 2 (((S.2 x.toNat) : Nat) : Int)) (S.1 8 0)) u.toNat = -1 then -4 else bpw S1.1 (wob (S.1 (20 + (S.2 x.toNat))) (S.1 (16 + 0)) (S.1 3 (((S.2 x.toNat) : Nat) : Int)) (S.1 6 (((S.2 x.toNat) : Nat) : Int)) (S.1 53 0) (S.1 54 0) (S.1 55 0) (S.1 2 (((S.2 x.toNat) : Nat) : Int)) (S.1 8 0)) u.toNat)))
abbrev rm_X9_best : Room := ({ frames := 5, cells := 0, slots := 0, locals := 113 } : Room)
set_option maxRecDepth 100000 in
set_option maxHeartbeats 4000000 in
theorem k_X9_best (l : Launch) (G : Ge) (S : St)  (x : Int) (u : Int)  (hx : -2147483648 ≤ x ∧ x < 2147483648) (hu : -2147483648 ≤ u ∧ u < 2147483648) (N_ : Int) (hI : CI S N_) : Ki (KC G) l yX9_best cX9_best 3 .int rm_X9_best [.ref (G.2.2 0), .int (iI x), .int (iI u)] S (po_X9_best S x u) := by
  refine K_start (own := "NameSeeker") (by decide +kernel) rfl (Nat.le_of_ble_eq_true rfl) ?_
  intro p e s m args below meth c X hr hlk I ls hl
  have hl : lv_has ls 3 [(0, .ref (G.2.2 0)), (1, .int (iI x)), (2, .int (iI u))] := hl
  have hI0 := hI
  obtain ⟨ht, hc, hln, hsc, hcn, hpi, hinj, hnm, hwd, hkn, has, hnx⟩ := hI
  have hw0 : (0 ≤ S.1 8 0 ∧ S.1 8 0 ≤ 6) ∧ ∀ i : Int, 0 ≤ i → i < S.1 8 0 → ((97 ≤ S.1 (16 + 0) i ∧ S.1 (16 + 0) i ≤ 122) ∨ (65 ≤ S.1 (16 + 0) i ∧ S.1 (16 + 0) i ≤ 90)) := hwd 0 (by decide)
  have hSI0 : SI S.1 := ⟨hsc, by omega, hw0, hkn, hnx⟩
  refine lv_aload_n X.1 X.2.1 dX9_best_0 rfl (lv_at hl 0 rfl) ?_
  refine gC_ns_lot X I tb_378 dX9_best_1 ?_
  refine lv_iload_n X.1 X.2.1 dX9_best_4 rfl (lv_at hl 1 rfl) ?_
  refine cl_i I (runV (As := [.int (iI x)]) (rest := []) X (k_X3_has l G S  x (S.1 51 0) rfl (by omega) (by omega)) (gdC tb_425 (gdC tb_426 (gdC tb_427 (gdC tb_16 (gdC tb_428 gdB))))) ⟨ok_X3_has, ⟨Nat.le_of_ble_eq_true rfl, Nat.le_of_ble_eq_true rfl⟩, rfl, rfl⟩ (PreV.of (C := RX3) (T := TX3) (N := 3) I (atC_lot) rfl) rfl hl.1 rfl (Nat.le_of_ble_eq_true rfl) dX9_best_5 ⟨Nat.zero_le _, Nat.zero_le _⟩) (fun r1 S2 H locs q3 I => ?_)
  obtain ⟨e1_, e2_⟩ := q3
  rw [e2_] at I
  rw [e1_]
  clear e1_ e2_
  rcases Decidable.em ((0 ≤ x ∧ x < (S.1 51 0))) with b4 | b4
  · rw [bI_t b4]
    refine rz_eq (tgt := 15) X (by omega) dX9_best_8 (by decide) (fun c5 => absurd c5 (by decide)) (fun _ => ?_)
    refine lv_iload_n X.1 X.2.1 dX9_best_11 rfl (lv_at hl 2 rfl) ?_
    refine rz_ge (tgt := 17) X (by omega) dX9_best_12 (by decide) (fun c6 => ?_) (fun c6 => ?_)
    · skip
      refine lv_iload_n X.1 X.2.1 dX9_best_17 rfl (lv_at hl 2 rfl) ?_
      refine lv_aload_n X.1 X.2.1 dX9_best_18 rfl (lv_at hl 0 rfl) ?_
      refine gC_ns_typed X I tb_380 dX9_best_19 ?_
      refine gC_word_size X I (w := 0) (by decide) (v := (S.1 8 0)) rfl tb_142 dX9_best_22 ?_
      refine rj_ge (tgt := 57) X (by omega) (by omega) dX9_best_25 (by decide) (fun c7 => ?_) (fun c7 => ?_)
      · skip
        refine ri_push X (v := (-4)) (by decide) dX9_best_57 ?_
        exact rt_i X hr hlk I rfl (by first | exact ⟨rfl, fun _ _ _ _ => rfl, hnx, Or.inr (Or.inl ⟨by omega, by omega, Or.inl (by omega), rfl⟩)⟩ | exact ⟨rfl, hAf, hAn, Or.inr (Or.inl ⟨by omega, by omega, Or.inr (by assumption), rfl⟩)⟩) dX9_best_59
      · skip
        have hnx_ := hnm x (by omega) (by omega)
        obtain ⟨hn1, hn2, hn3, hn4, hn5, hn6, hn7⟩ := id hnx_
        have hj := hpi x.toNat (by omega)
        refine lv_aload_n X.1 X.2.1 dX9_best_28 rfl (lv_at hl 0 rfl) ?_
        refine gC_ns_laying X I tb_383 dX9_best_29 ?_
        refine lv_aload_n X.1 X.2.1 dX9_best_32 rfl (lv_at hl 0 rfl) ?_
        refine gC_ns_lot X I tb_378 dX9_best_33 ?_
        refine gC_lot_names X I tb_99 dX9_best_36 ?_
        refine lv_iload_n X.1 X.2.1 dX9_best_39 rfl (lv_at hl 1 rfl) ?_
        refine aC_names X I (by omega) dX9_best_40 ?_
        refine lv_aload_n X.1 X.2.1 dX9_best_41 rfl (lv_at hl 0 rfl) ?_
        refine gC_ns_typed X I tb_380 dX9_best_42 ?_
        refine lv_aload_n X.1 X.2.1 dX9_best_45 rfl (lv_at hl 0 rfl) ?_
        refine gC_ns_scales X I tb_379 dX9_best_46 ?_
        refine cl_i I (runV (As := [.ref (G.2.2 (41 + 2 * S.2 x.toNat)), .ref (G.2.2 (6 + 2 * 0)), .ref (G.2.2 5)]) (rest := []) X (k_X2_workOut l G S ((S.2 x.toNat)) (0) (S.1 2 (((S.2 x.toNat) : Nat) : Int)) (S.1 3 (((S.2 x.toNat) : Nat) : Int)) (S.1 6 (((S.2 x.toNat) : Nat) : Int)) (S.1 (20 + (S.2 x.toNat))) (S.1 8 0) (S.1 (16 + 0)) (S.1 53 0) (S.1 54 0) (S.1 55 0) rfl rfl rfl (fun i_ => rfl) rfl (fun i_ => rfl) rfl rfl rfl (hpi _ (by omega)) (by omega) hn2 hn5 hsc.1 hsc.2.1 hsc.2.2 (by omega) hw0.1 hn7 hw0.2 hnx) (gdC tb_555 (gdC tb_556 (gdC tb_557 (gdC tb_20 (gdC tb_558 gdB))))) ⟨ok_X2_workOut, ⟨Nat.le_of_ble_eq_true rfl, Nat.le_of_ble_eq_true rfl⟩, rfl, rfl⟩ (PreV.of (C := RX2) (T := TX2) (N := 4) I (atC_laying) rfl) rfl hl.1 rfl (Nat.le_of_ble_eq_true rfl) dX9_best_49 ⟨Nat.zero_le _, Nat.zero_le _⟩) (fun r8 S9 H locs q10 I => ?_)
        obtain ⟨hA2, hAf, e1_, hA60, hArow, hAn⟩ := q10
        rw [e1_]
        obtain ⟨V1, V2⟩ := S9
        dsimp only at hA2 hAf hA60 hArow hAn
        subst hA2
        have hwr := wor_r (sg := (S.1 (20 + (S.2 x.toNat)))) (f := (S.1 (16 + 0))) (kd := (S.1 3 (((S.2 x.toNat) : Nat) : Int))) (bg := (S.1 6 (((S.2 x.toNat) : Nat) : Int))) (m := (S.1 8 0)) (n := (S.1 2 (((S.2 x.toNat) : Nat) : Int))) (b := (S.1 53 0)) (r := (S.1 54 0)) (g := (S.1 55 0)) (by omega) (by omega) (by omega) (by omega) (by omega)
        refine ri_push X (v := (-4)) (by decide) dX9_best_52 ?_
        refine rj_ne (tgt := 60) X (by omega) (by omega) dX9_best_54 (by decide) (fun c11 => ?_) (fun c11 => ?_)
        · skip
          have hwb := wob_r (sg := S.1 (20 + (S.2 x.toNat))) (f := S.1 (16 + 0)) (kd := S.1 3 (((S.2 x.toNat) : Nat) : Int)) (bg := S.1 6 (((S.2 x.toNat) : Nat) : Int)) (b := S.1 53 0) (r := S.1 54 0) (g := S.1 55 0) (n := S.1 2 (((S.2 x.toNat) : Nat) : Int)) (m := S.1 8 0) (by omega)
          refine lv_aload_n X.1 X.2.1 dX9_best_60 rfl (lv_at hl 0 rfl) ?_
          refine gC_ns_laying X I tb_383 dX9_best_61 ?_
          refine lv_iload_n X.1 X.2.1 dX9_best_64 rfl (lv_at hl 2 rfl) ?_
          refine cl_i I (runV (As := [.int (iI u)]) (rest := []) X (k_X2_bestPlace l G (V1, S.2)  u (V1 60 0) rfl (by omega) (by omega) hAn) (gdC tb_590 (gdC tb_591 (gdC tb_592 (gdC tb_20 (gdC tb_593 gdB))))) ⟨ok_X2_bestPlace, ⟨Nat.le_of_ble_eq_true rfl, Nat.le_of_ble_eq_true rfl⟩, rfl, rfl⟩ (PreV.of (C := RX2) (T := TX2) (N := 4) I (atC_laying) rfl) rfl hl.1 rfl (Nat.le_of_ble_eq_true rfl) dX9_best_65 ⟨Nat.zero_le _, Nat.zero_le _⟩) (fun r12 S13 H locs q14 I => ?_)
          obtain ⟨e1_, e2_⟩ := q14
          rw [e2_] at I
          rw [e1_]
          clear e1_ e2_
          exact rt_i X hr hlk I rfl (by exact ⟨rfl, hAf, hAn, Or.inr (Or.inr ⟨by omega, by omega, by omega, by assumption, hArow, by rw [hA60]⟩)⟩) dX9_best_68
        · skip
          refine ri_push X (v := (-4)) (by decide) dX9_best_57 ?_
          exact rt_i X hr hlk I rfl (by first | exact ⟨rfl, fun _ _ _ _ => rfl, hnx, Or.inr (Or.inl ⟨by omega, by omega, Or.inl (by omega), rfl⟩)⟩ | exact ⟨rfl, hAf, hAn, Or.inr (Or.inl ⟨by omega, by omega, Or.inr (by assumption), rfl⟩)⟩) dX9_best_59
    · skip
      refine ri_const X (v := (-1)) dX9_best_15 ?_
      exact rt_i X hr hlk I rfl (by exact ⟨rfl, fun _ _ _ _ => rfl, hnx, Or.inl ⟨by omega, rfl⟩⟩) dX9_best_16
  · rw [bI_f b4]
    refine rz_eq (tgt := 15) X (by omega) dX9_best_8 (by decide) (fun _ => ?_) (fun c15 => absurd c15 (fun q => q (by decide)))
    refine ri_const X (v := (-1)) dX9_best_15 ?_
    exact rt_i X hr hlk I rfl (by exact ⟨rfl, fun _ _ _ _ => rfl, hnx, Or.inl ⟨by omega, rfl⟩⟩) dX9_best_16

theorem ok_X9_keep : yX9_keep.cls ≠ "java/lang/invoke/MethodHandle" ∧ yX9_keep.cls ≠ "java/lang/invoke/VarHandle" ∧ (parseMethodDescriptor yX9_keep.desc).map (fun d => d.parameters.length) = some 0 := ⟨by decide +kernel, by decide +kernel, by decide +kernel⟩
abbrev po_X9_keep (S : St)   : Int → St → Prop := fun r S1 => (2 ≤ S.1 56 0 ∧ r = -3 ∧ S1 = S) ∨ (S.1 56 0 < 2 ∧ r = S.1 56 0 + 1 ∧ ∃ V1 : Nat → Int → Int, cpyP S.1 V1 (2 + (S.1 56 0).toNat) 0 ∧ S1 = (us V1 56 (S.1 56 0 + 1), S.2))
abbrev rm_X9_keep : Room := ({ frames := 1, cells := 0, slots := 0, locals := 22 } : Room)
set_option maxRecDepth 100000 in
set_option maxHeartbeats 4000000 in
theorem k_X9_keep (l : Launch) (G : Ge) (S : St)    (N_ : Int) (hI : CI S N_) : Ki (KC G) l yX9_keep cX9_keep 1 .int rm_X9_keep [.ref (G.2.2 0)] S (po_X9_keep S) := by
  refine K_start (own := "NameSeeker") (by decide +kernel) rfl (Nat.le_of_ble_eq_true rfl) ?_
  intro p e s m args below meth c X hr hlk I ls hl
  have hl : lv_has ls 1 [(0, .ref (G.2.2 0))] := hl
  have hI0 := hI
  obtain ⟨ht, hc, hln, hsc, hcn, hpi, hinj, hnm, hwd, hkn, has, hnx⟩ := hI
  have hw0 : (0 ≤ S.1 8 0 ∧ S.1 8 0 ≤ 6) ∧ ∀ i : Int, 0 ≤ i → i < S.1 8 0 → ((97 ≤ S.1 (16 + 0) i ∧ S.1 (16 + 0) i ≤ 122) ∨ (65 ≤ S.1 (16 + 0) i ∧ S.1 (16 + 0) i ≤ 90)) := hwd 0 (by decide)
  have hSI0 : SI S.1 := ⟨hsc, by omega, hw0, hkn, hnx⟩
  refine lv_aload_n X.1 X.2.1 dX9_keep_0 rfl (lv_at hl 0 rfl) ?_
  refine gC_ns_keptSize X I (v := (S.1 56 0)) rfl tb_387 dX9_keep_1 ?_
  refine ri_const X (v := 2) dX9_keep_4 ?_
  refine rj_lt (tgt := 11) X (by omega) (by omega) dX9_keep_5 (by decide) (fun c1 => ?_) (fun c1 => ?_)
  · skip
    refine lv_aload_n X.1 X.2.1 dX9_keep_11 rfl (lv_at hl 0 rfl) ?_
    refine gC_ns_kept X I tb_382 dX9_keep_12 ?_
    refine lv_aload_n X.1 X.2.1 dX9_keep_15 rfl (lv_at hl 0 rfl) ?_
    refine gC_ns_keptSize X I (v := (S.1 56 0)) rfl tb_387 dX9_keep_16 ?_
    refine aC_kept X I (by omega) dX9_keep_19 ?_
    refine lv_aload_n X.1 X.2.1 dX9_keep_20 rfl (lv_at hl 0 rfl) ?_
    refine gC_ns_typed X I tb_380 dX9_keep_21 ?_
    refine cl_v I (runV (As := [.ref (G.2.2 (6 + 2 * 0))]) (rest := []) X (k_X8_copy l G S ((2 + (S.1 56 0).toNat)) (0)   (by omega) (by decide) (by omega) hw0.1 (fun i h1 h2 => by have := hw0.2 i h1 h2; omega)) (gdC tb_659 (gdC tb_660 (gdC tb_661 (gdC tb_19 (gdC tb_662 gdB))))) ⟨ok_X8_copy, ⟨Nat.le_of_ble_eq_true rfl, Nat.le_of_ble_eq_true rfl⟩, rfl, rfl⟩ (PreV.of (C := RX8) (T := TX8) (N := 2) I (atC_word (w := (2 + (S.1 56 0).toNat)) (by omega)) rfl) rfl hl.1 rfl (Nat.le_of_ble_eq_true rfl) dX9_keep_24 ⟨Nat.zero_le _, Nat.zero_le _⟩) (fun S3 H locs q4 I => ?_)
    obtain ⟨hA2, hA8, hAl, hAf⟩ := q4
    obtain ⟨V1, V2⟩ := S3
    dsimp only at hA2 hA8 hAl hAf
    subst hA2
    refine lv_aload_n X.1 X.2.1 dX9_keep_27 rfl (lv_at hl 0 rfl) ?_
    refine lv_dup X.1 X.2.1 dX9_keep_28 rfl ?_
    refine gC_ns_keptSize X I (v := (S.1 56 0)) (hAf 56 0 (by omega) (by omega)) tb_387 dX9_keep_29 ?_
    refine ri_const X (v := 1) dX9_keep_32 ?_
    refine ri_add X (v := ((S.1 56 0) + 1)) rfl dX9_keep_33 ?_
    refine pC_ns_keptSize X I tb_387 dX9_keep_34 (fun H locs I => ?_)
    have I : In (KC G) s s.heap H locs ((us V1 56 ((S.1 56 0) + 1)), S.2) := I
    refine lv_aload_n X.1 X.2.1 dX9_keep_37 rfl (lv_at hl 0 rfl) ?_
    refine gC_ns_keptSize X I (v := ((S.1 56 0) + 1)) (by show (us V1 56 ((S.1 56 0) + 1)) 56 0 = _; rw [us_eq]) tb_387 dX9_keep_38 ?_
    exact rt_i X hr hlk I rfl (by exact Or.inr (⟨by omega, rfl, V1, ⟨hA8, hAl, hAf⟩, rfl⟩)) dX9_keep_41
  · skip
    refine ri_push X (v := (-3)) (by decide) dX9_keep_8 ?_
    exact rt_i X hr hlk I rfl (by exact Or.inl ⟨by omega, rfl, rfl⟩) dX9_keep_10

theorem ok_X9_back : yX9_back.cls ≠ "java/lang/invoke/MethodHandle" ∧ yX9_back.cls ≠ "java/lang/invoke/VarHandle" ∧ (parseMethodDescriptor yX9_back.desc).map (fun d => d.parameters.length) = some 0 := ⟨by decide +kernel, by decide +kernel, by decide +kernel⟩
abbrev po_X9_back (S : St)   : Int → St → Prop := fun r S1 => (S.1 56 0 = 0 ∧ r = -2 ∧ S1 = S) ∨ (0 < S.1 56 0 ∧ r = S.1 56 0 - 1 ∧ ∃ V1 : Nat → Int → Int, cpyP (us S.1 56 (S.1 56 0 - 1)) V1 0 (2 + (S.1 56 0 - 1).toNat) ∧ S1 = (V1, S.2))
abbrev rm_X9_back : Room := ({ frames := 1, cells := 0, slots := 0, locals := 22 } : Room)
set_option maxRecDepth 100000 in
set_option maxHeartbeats 4000000 in
theorem k_X9_back (l : Launch) (G : Ge) (S : St)    (N_ : Int) (hI : CI S N_) : Ki (KC G) l yX9_back cX9_back 1 .int rm_X9_back [.ref (G.2.2 0)] S (po_X9_back S) := by
  refine K_start (own := "NameSeeker") (by decide +kernel) rfl (Nat.le_of_ble_eq_true rfl) ?_
  intro p e s m args below meth c X hr hlk I ls hl
  have hl : lv_has ls 1 [(0, .ref (G.2.2 0))] := hl
  have hI0 := hI
  obtain ⟨ht, hc, hln, hsc, hcn, hpi, hinj, hnm, hwd, hkn, has, hnx⟩ := hI
  have hw0 : (0 ≤ S.1 8 0 ∧ S.1 8 0 ≤ 6) ∧ ∀ i : Int, 0 ≤ i → i < S.1 8 0 → ((97 ≤ S.1 (16 + 0) i ∧ S.1 (16 + 0) i ≤ 122) ∨ (65 ≤ S.1 (16 + 0) i ∧ S.1 (16 + 0) i ≤ 90)) := hwd 0 (by decide)
  have hSI0 : SI S.1 := ⟨hsc, by omega, hw0, hkn, hnx⟩
  refine lv_aload_n X.1 X.2.1 dX9_back_0 rfl (lv_at hl 0 rfl) ?_
  refine gC_ns_keptSize X I (v := (S.1 56 0)) rfl tb_387 dX9_back_1 ?_
  refine rz_ne (tgt := 10) X (by omega) dX9_back_4 (by decide) (fun c1 => ?_) (fun c1 => ?_)
  · skip
    refine lv_aload_n X.1 X.2.1 dX9_back_10 rfl (lv_at hl 0 rfl) ?_
    refine lv_dup X.1 X.2.1 dX9_back_11 rfl ?_
    refine gC_ns_keptSize X I (v := (S.1 56 0)) rfl tb_387 dX9_back_12 ?_
    refine ri_const X (v := 1) dX9_back_15 ?_
    refine ri_sub X (v := ((S.1 56 0) - 1)) rfl dX9_back_16 ?_
    refine pC_ns_keptSize X I tb_387 dX9_back_17 (fun H locs I => ?_)
    have I : In (KC G) s s.heap H locs ((us S.1 56 ((S.1 56 0) - 1)), S.2) := I
    refine lv_aload_n X.1 X.2.1 dX9_back_20 rfl (lv_at hl 0 rfl) ?_
    refine gC_ns_typed X I tb_380 dX9_back_21 ?_
    refine lv_aload_n X.1 X.2.1 dX9_back_24 rfl (lv_at hl 0 rfl) ?_
    refine gC_ns_kept X I tb_382 dX9_back_25 ?_
    refine lv_aload_n X.1 X.2.1 dX9_back_28 rfl (lv_at hl 0 rfl) ?_
    refine gC_ns_keptSize X I (v := ((S.1 56 0) - 1)) (by show (us S.1 56 ((S.1 56 0) - 1)) 56 0 = _; rw [us_eq]) tb_387 dX9_back_29 ?_
    refine aC_kept X I (by omega) dX9_back_32 ?_
    refine cl_v I (runV (As := [.ref (G.2.2 (6 + 2 * (2 + ((S.1 56 0) - 1).toNat)))]) (rest := []) X (k_X8_copy l G ((us S.1 56 ((S.1 56 0) - 1)), S.2) (0) ((2 + ((S.1 56 0) - 1).toNat))   (by decide) (by omega) (by omega) (by show 0 ≤ us S.1 56 (S.1 56 0 - 1) 8 _ ∧ us S.1 56 (S.1 56 0 - 1) 8 _ ≤ 6; rw [us_nc (by decide)]; exact (hwd _ (by omega)).1) (fun i h1 h2 => by have h4 := (hwd (2 + (S.1 56 0 - 1).toNat) (by omega)).2 i h1 (by have h5 : i < us S.1 56 (S.1 56 0 - 1) 8 _ := h2; rw [us_nc (by decide)] at h5; exact h5); show 0 ≤ us S.1 56 (S.1 56 0 - 1) _ i ∧ us S.1 56 (S.1 56 0 - 1) _ i < 65536; rw [us_nc (by omega)]; omega)) (gdC tb_659 (gdC tb_660 (gdC tb_661 (gdC tb_19 (gdC tb_662 gdB))))) ⟨ok_X8_copy, ⟨Nat.le_of_ble_eq_true rfl, Nat.le_of_ble_eq_true rfl⟩, rfl, rfl⟩ (PreV.of (C := RX8) (T := TX8) (N := 2) I (atC_word (w := 0) (by decide)) rfl) rfl hl.1 rfl (Nat.le_of_ble_eq_true rfl) dX9_back_33 ⟨Nat.zero_le _, Nat.zero_le _⟩) (fun S3 H locs q4 I => ?_)
    obtain ⟨hA2, hA8, hAl, hAf⟩ := q4
    obtain ⟨V1, V2⟩ := S3
    dsimp only at hA2 hA8 hAl hAf
    subst hA2
    refine lv_aload_n X.1 X.2.1 dX9_back_36 rfl (lv_at hl 0 rfl) ?_
    refine gC_ns_keptSize X I (v := ((S.1 56 0) - 1)) ((hAf 56 0 (by omega) (by omega)).trans (by show (us S.1 56 ((S.1 56 0) - 1)) 56 0 = _; rw [us_eq])) tb_387 dX9_back_37 ?_
    exact rt_i X hr hlk I rfl (by exact Or.inr (⟨by omega, rfl, V1, ⟨hA8, hAl, hAf⟩, rfl⟩)) dX9_back_40
  · skip
    refine ri_push X (v := (-2)) (by decide) dX9_back_7 ?_
    exact rt_i X hr hlk I rfl (by exact Or.inl ⟨by omega, rfl, rfl⟩) dX9_back_9
