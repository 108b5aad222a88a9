/-- what a name of the model holds -/
def NM (F : Nat → Int → Int) (j : Int) : Prop := (1 ≤ F 3 j ∧ F 3 j ≤ 12) ∧ (0 ≤ F 4 j ∧ F 4 j ≤ 3) ∧ (0 ≤ F 5 j ∧ F 5 j ≤ 100000) ∧ (0 ≤ F 6 j ∧ F 6 j ≤ 100000) ∧ ∀ k : Int, 0 ≤ k → k < F 3 j → ((97 ≤ F 2 (12 * j + k) ∧ F 2 (12 * j + k) ≤ 122) ∨ (65 ≤ F 2 (12 * j + k) ∧ F 2 (12 * j + k) ≤ 90) ∨ F 2 (12 * j + k) = 95)
/-- the ranges of the model's numbers -/
def MI (F : Nat → Int → Int) : Prop := (0 ≤ F 50 0 ∧ F 50 0 ≤ 200) ∧ (∀ i : Int, 0 ≤ i → i < F 50 0 → 32 ≤ F 1 i ∧ F 1 i ≤ 126) ∧ (1 ≤ F 51 0 ∧ F 51 0 ≤ 8) ∧ (∀ j : Int, 0 ≤ j → j < F 51 0 → NM F j) ∧ (∀ i : Int, 0 ≤ i → i < 3 → 0 ≤ F 7 i ∧ F 7 i ≤ 9) ∧ ((0 ≤ F 53 0 ∧ F 53 0 ≤ 6) ∧ ∀ i : Int, 0 ≤ i → i < F 53 0 → ((97 ≤ F 12 i ∧ F 12 i ≤ 122) ∨ (65 ≤ F 12 i ∧ F 12 i ≤ 90))) ∧ ((0 ≤ F 54 0 ∧ F 54 0 ≤ 2) ∧ ∀ q : Int, 0 ≤ q → q < F 54 0 → (0 ≤ F 14 q ∧ F 14 q ≤ 6) ∧ ∀ i : Int, 0 ≤ i → i < F 14 q → ((97 ≤ F 13 (6 * q + i) ∧ F 13 (6 * q + i) ≤ 122) ∨ (65 ≤ F 13 (6 * q + i) ∧ F 13 (6 * q + i) ≤ 90))) ∧ ((0 ≤ F 55 0 ∧ F 55 0 ≤ 10000) ∧ (0 ≤ F 56 0 ∧ F 56 0 ≤ 10000) ∧ (1 ≤ F 57 0 ∧ F 57 0 ≤ 10000) ∧ (0 ≤ F 58 0 ∧ F 58 0 ≤ 10000) ∧ (0 ≤ F 59 0 ∧ F 59 0 ≤ 10000) ∧ (0 ≤ F 60 0 ∧ F 60 0 < 65521) ∧ (0 ≤ F 61 0 ∧ F 61 0 ≤ 6)) ∧ (∀ i : Int, 0 ≤ i → i < 6 → 0 ≤ F 15 i ∧ F 15 i < 1099511627776) ∧ (∀ q : Int, 0 ≤ q → q < 32 → (-100000 ≤ F 16 q ∧ F 16 q ≤ 100000) ∧ (0 ≤ F 17 q ∧ F 17 q < 1099511627776) ∧ (0 ≤ F 18 q ∧ F 18 q ≤ 100000) ∧ (-1000 ≤ F 19 q ∧ F 19 q ≤ 1000))
theorem bgv_lt (s : Int → Int) : ∀ k : Nat, 0 ≤ bgv s k ∧ (bgv s k).toNat < 2 ^ k
  | 0 => by rw [bgv]; exact ⟨by omega, by decide⟩
  | k + 1 => by
    have h := bgv_lt s k
    have h2 : 2 ^ (k + 1) = 2 ^ k + 2 ^ k := by rw [Nat.pow_succ]; omega
    rw [bgv]
    split
    · unfold bor pw
      have := Nat.or_lt_two_pow (x := (bgv s k).toNat) (y := ((2 ^ ((k : Int)).toNat : Nat) : Int).toNat) (n := k + 1) (by omega) (by rw [Int.toNat_natCast, Int.toNat_natCast]; omega)
      omega
    · omega
theorem bor_pw {a : Int} {k : Nat} (h : 0 ≤ a ∧ a.toNat < 2 ^ k) : bor a (pw (k : Int)) = a + pw (k : Int) := by
  unfold bor pw
  have e := Nat.two_pow_add_eq_or_of_lt h.2 1
  rw [Nat.mul_one, Nat.or_comm] at e
  simp only [Int.toNat_natCast]
  rw [← e]
  omega
theorem bgv_y {s : Int → Int} {k : Int} (h : 0 ≤ k) (hp : bgP s k) : bgv s (k + 1).toNat = bgv s k.toNat + pw k := by
  have e : ((k.toNat : Nat) : Int) = k := by omega
  rw [show (k + 1).toNat = k.toNat + 1 by omega, bgv, e, if_pos hp]
  have := bor_pw (bgv_lt s k.toNat)
  rw [e] at this
  exact this
theorem bgv_n {s : Int → Int} {k : Int} (h : 0 ≤ k) (hp : ¬ bgP s k) : bgv s (k + 1).toNat = bgv s k.toNat := by
  have e : ((k.toNat : Nat) : Int) = k := by omega
  rw [show (k + 1).toNat = k.toNat + 1 by omega, bgv, e, if_neg hp]
theorem bgv_4096 (s : Int → Int) (k : Nat) (h : k ≤ 12) : 0 ≤ bgv s k ∧ bgv s k < 4096 := by
  have h1 := bgv_lt s k
  have h2 : 2 ^ k ≤ 2 ^ 12 := Nat.pow_le_pow_right (by decide) h
  omega
theorem cdm_s {f : Int → Int} {i g : Int} (hi : 0 ≤ i) (h : ((97 ≤ f i ∧ f i ≤ 122) ∧ g = f i - 97 + 1) ∨ (¬ (97 ≤ f i ∧ f i ≤ 122) ∧ g = f i - 65 + 27 ∧ (65 ≤ f i ∧ f i ≤ 90))) : (53 * cdv f i.toNat) + g = cdv f (i + 1).toNat := by
  rw [show (i + 1).toNat = i.toNat + 1 by omega, cdv, show ((i.toNat : Nat) : Int) = i by omega]
  unfold lnum
  rcases h with ⟨h, rfl⟩ | ⟨h, rfl, h2⟩
  · rw [if_neg (by omega), if_pos h]; omega
  · rw [if_pos h2, if_neg h]; omega
/-- a name goes one place down -/
def mvd (F V : Nat → Int → Int) (j k : Int) : Prop := V 3 j = F 3 k ∧ V 4 j = F 4 k ∧ V 5 j = F 5 k ∧ V 6 j = F 6 k ∧ ∀ i : Int, 0 ≤ i → i < F 3 k → V 2 (12 * j + i) = F 2 (12 * k + i)
def drI (F U : Nat → Int → Int) (x y : Int) : Prop := (∀ j : Int, 0 ≤ j → j < y → mvd F U j (if j < x then j else j + 1)) ∧ (∀ j : Int, y ≤ j → U 3 j = F 3 j ∧ U 4 j = F 4 j ∧ U 5 j = F 5 j ∧ U 6 j = F 6 j ∧ True) ∧ (∀ i : Int, 12 * y ≤ i → U 2 i = F 2 i) ∧ ∀ (c_ : Nat) (i : Int), ¬ (2 ≤ c_ ∧ c_ ≤ 6) → ¬ c_ = 51 → U c_ i = F c_ i
theorem drI_0 {F : Nat → Int → Int} {x v : Int} : drI F (us F 51 v) x x := by
  refine ⟨fun j h1 h2 => ?_, fun j h => ⟨us_nc (by decide), us_nc (by decide), us_nc (by decide), us_nc (by decide), trivial⟩, fun i h => us_nc (by decide), fun c_ i _ h => us_nc h⟩
  rw [if_pos h2]
  exact ⟨us_nc (by decide), us_nc (by decide), us_nc (by decide), us_nc (by decide), fun i _ _ => us_nc (by decide)⟩
theorem drI_s {F U V : Nat → Int → Int} {x y k : Int} (hy : 0 ≤ x ∧ x ≤ y) (h : drI F U x y) (hV2 : ∀ i : Int, 0 ≤ i → i < k → V 2 (12 * y + i) = U 2 (12 * y + 12 + i)) (hVf : ∀ (c_ : Nat) (i : Int), ¬ (c_ = 2 ∧ 12 * y ≤ i ∧ i < 12 * y + k) → V c_ i = (ua (ua (ua (ua U 3 y (U 3 (y + 1))) 4 y (U 4 (y + 1))) 5 y (U 5 (y + 1))) 6 y (U 6 (y + 1))) c_ i) (hk : k = U 3 (y + 1) ∧ k ≤ 12) (hs : ∀ j : Int, 0 ≤ j → j < y → F 3 (if j < x then j else j + 1) ≤ 12) : drI F V x (y + 1) := by
  obtain ⟨h1, h2, h3, h4⟩ := h
  have g := h2 (y + 1) (by omega)
  refine ⟨fun j a b => ?_, fun j a => ?_, fun i a => ?_, fun c_ i a b => ?_⟩
  · rcases Int.lt_or_le j y with q | q
    · obtain ⟨m1, m2, m3, m4, m5⟩ := h1 j a q
      have hs1 := hs j a q
      refine ⟨?_, ?_, ?_, ?_, fun i i1 i2 => ?_⟩
      · rw [hVf 3 j (by omega), ua_nc (by decide), ua_nc (by decide), ua_nc (by decide), ua_ni (by omega)]; exact m1
      · rw [hVf 4 j (by omega), ua_nc (by decide), ua_nc (by decide), ua_ni (by omega), ua_nc (by decide)]; exact m2
      · rw [hVf 5 j (by omega), ua_nc (by decide), ua_ni (by omega), ua_nc (by decide), ua_nc (by decide)]; exact m3
      · rw [hVf 6 j (by omega), ua_ni (by omega), ua_nc (by decide), ua_nc (by decide), ua_nc (by decide)]; exact m4
      · rw [hVf 2 _ (by omega), ua_nc (by decide), ua_nc (by decide), ua_nc (by decide), ua_nc (by decide)]; exact m5 i i1 i2
    · have e : j = y := by omega
      subst e
      rw [if_neg (by omega)]
      refine ⟨?_, ?_, ?_, ?_, fun i i1 i2 => ?_⟩
      · rw [hVf 3 j (by omega), ua_nc (by decide), ua_nc (by decide), ua_nc (by decide), ua_eq]; exact g.1
      · rw [hVf 4 j (by omega), ua_nc (by decide), ua_nc (by decide), ua_eq]; exact g.2.1
      · rw [hVf 5 j (by omega), ua_nc (by decide), ua_eq]; exact g.2.2.1
      · rw [hVf 6 j (by omega), ua_eq]; exact g.2.2.2.1
      · rw [hV2 i i1 (by rw [hk.1, g.1]; exact i2), h3 _ (by omega)]; congr 1; omega
  · have q := h2 j (by omega)
    refine ⟨?_, ?_, ?_, ?_, trivial⟩
    · rw [hVf 3 j (by omega), ua_nc (by decide), ua_nc (by decide), ua_nc (by decide), ua_ni (by omega)]; exact q.1
    · rw [hVf 4 j (by omega), ua_nc (by decide), ua_nc (by decide), ua_ni (by omega), ua_nc (by decide)]; exact q.2.1
    · rw [hVf 5 j (by omega), ua_nc (by decide), ua_ni (by omega), ua_nc (by decide), ua_nc (by decide)]; exact q.2.2.1
    · rw [hVf 6 j (by omega), ua_ni (by omega), ua_nc (by decide), ua_nc (by decide), ua_nc (by decide)]; exact q.2.2.2.1
  · rw [hVf 2 i (by omega), ua_nc (by decide), ua_nc (by decide), ua_nc (by decide), ua_nc (by decide)]; exact h3 i (by omega)
  · rw [hVf c_ i (by omega), ua_nc (by omega), ua_nc (by omega), ua_nc (by omega), ua_nc (by omega)]; exact h4 c_ i a b
def kpP (F V : Nat → Int → Int) : Prop := V 14 (F 54 0) = F 53 0 ∧ (∀ i : Int, 0 ≤ i → i < F 53 0 → V 13 (6 * F 54 0 + i) = F 12 i) ∧ ∀ (c_ : Nat) (i : Int), ¬ (c_ = 13 ∧ 6 * F 54 0 ≤ i) → ¬ (c_ = 14 ∧ i = F 54 0) → V c_ i = F c_ i
theorem kpP_of {F V : Nat → Int → Int} {k : Int} (hk : k = F 53 0) (hV : ∀ i : Int, 0 ≤ i → i < k → V 13 (6 * F 54 0 + i) = F 12 i) (hVf : ∀ (c_ : Nat) (i : Int), ¬ (c_ = 13 ∧ 6 * F 54 0 ≤ i ∧ i < 6 * F 54 0 + k) → V c_ i = ua F 14 (F 54 0) (F 53 0) c_ i) : kpP F V := ⟨by rw [hVf 14 _ (by omega), ua_eq], fun i a b => hV i a (by omega), fun c_ i a b => by rw [hVf c_ i (by omega), ua_at, if_neg b]⟩
def bkP (F V : Nat → Int → Int) : Prop := V 54 0 = F 54 0 - 1 ∧ V 53 0 = F 14 (F 54 0 - 1) ∧ (∀ i : Int, 0 ≤ i → i < F 14 (F 54 0 - 1) → V 12 i = F 13 (6 * (F 54 0 - 1) + i)) ∧ ∀ (c_ : Nat) (i : Int), ¬ c_ = 12 → ¬ c_ = 53 → ¬ c_ = 54 → V c_ i = F c_ i
theorem bkP_of {F V : Nat → Int → Int} {k : Int} (hk : k = F 14 (F 54 0 - 1)) (hV : ∀ i : Int, 0 ≤ i → i < k → V 12 i = F 13 (6 * (F 54 0 - 1) + i)) (hVf : ∀ (c_ : Nat) (i : Int), ¬ c_ = 12 → V c_ i = us (us F 54 (F 54 0 - 1)) 53 (F 14 (F 54 0 - 1)) c_ i) : bkP F V := ⟨by rw [hVf 54 0 (by decide), us_nc (by decide), us_eq], by rw [hVf 53 0 (by decide), us_eq], fun i a b => hV i a (by omega), fun c_ i a b d => by rw [hVf c_ i a, us_nc b, us_nc d]⟩

theorem ok_X10_isName : yX10_isName.cls ≠ "java/lang/invoke/MethodHandle" ∧ yX10_isName.cls ≠ "java/lang/invoke/VarHandle" ∧ (parseMethodDescriptor yX10_isName.desc).map (fun d => d.parameters.length) = some 1 := ⟨by decide +kernel, by decide +kernel, by decide +kernel⟩
abbrev po_X10_isName (S : St)  (x : Int) (N_ : Int) : Int → St → Prop := fun r S1 => r = bI (0 ≤ x ∧ x < N_) ∧ S1 = S
abbrev rm_X10_isName : Room := ({ frames := 0, cells := 0, slots := 0, locals := 0 } : Room)
set_option maxRecDepth 100000 in
set_option maxHeartbeats 4000000 in
theorem k_X10_isName (l : Launch) (G : Ge) (S : St)  (x : Int) (N_ : Int) (e_N_ : S.1 51 0 = N_) (hx : -2147483648 ≤ x ∧ x < 2147483648) (hN : 0 ≤ N_ ∧ N_ ≤ 8) : Ki (KM G) l yX10_isName cX10_isName 2 .boolean rm_X10_isName [.ref (G.2.2 0), .int (iI x)] S (po_X10_isName S x N_) := by
  refine K_start (own := "NameSeekerModel") (by decide +kernel) rfl (Nat.le_of_ble_eq_true rfl) ?_
  intro p e s m args below meth c X hr hlk I ls hl
  have hl : lv_has ls 2 [(0, .ref (G.2.2 0)), (1, .int (iI x))] := hl
  refine lv_iload_n X.1 X.2.1 dX10_isName_0 rfl (lv_at hl 1 rfl) ?_
  refine rz_lt (tgt := 16) X (by omega) dX10_isName_1 (by decide) (fun c1 => ?_) (fun c1 => ?_)
  · skip
    refine ri_const X (v := 0) dX10_isName_16 ?_
    exact rt_i X hr hlk I (by rfl) (by refine ⟨(bI_f ?_).symm, rfl⟩; omega) dX10_isName_17
  · skip
    refine lv_iload_n X.1 X.2.1 dX10_isName_4 rfl (lv_at hl 1 rfl) ?_
    refine lv_aload_n X.1 X.2.1 dX10_isName_5 rfl (lv_at hl 0 rfl) ?_
    refine gM_model_names X I (v := N_) e_N_ tb_696 dX10_isName_6 ?_
    refine rj_ge (tgt := 16) X (by omega) (by omega) dX10_isName_9 (by decide) (fun c2 => ?_) (fun c2 => ?_)
    · skip
      refine ri_const X (v := 0) dX10_isName_16 ?_
      exact rt_i X hr hlk I (by rfl) (by refine ⟨(bI_f ?_).symm, rfl⟩; omega) dX10_isName_17
    · skip
      refine ri_const X (v := 1) dX10_isName_12 ?_
      refine lv_goto (tgt := 17) X.1 X.2.1 dX10_isName_13 (by decide) ?_
      exact rt_i X hr hlk I (by rfl) (by refine ⟨(bI_t ?_).symm, rfl⟩; omega) dX10_isName_17

theorem ok_X10_isBeginning : yX10_isBeginning.cls ≠ "java/lang/invoke/MethodHandle" ∧ yX10_isBeginning.cls ≠ "java/lang/invoke/VarHandle" ∧ (parseMethodDescriptor yX10_isBeginning.desc).map (fun d => d.parameters.length) = some 2 := ⟨by decide +kernel, by decide +kernel, by decide +kernel⟩
abbrev po_X10_isBeginning (S : St)  (x : Int) (q : Int) (sg : Int → Int) : Int → St → Prop := fun r S1 => r = bI (bgP (fun z_ => sg (12 * x + z_)) q) ∧ S1 = S
abbrev rm_X10_isBeginning : Room := ({ frames := 1, cells := 0, slots := 0, locals := 20 } : Room)
set_option maxRecDepth 100000 in
set_option maxHeartbeats 4000000 in
theorem k_X10_isBeginning (l : Launch) (G : Ge) (S : St)  (x : Int) (q : Int) (sg : Int → Int) (e_sg : ∀ i : Int, S.1 2 i = sg i) (hx : 0 ≤ x ∧ x < 8) (hq : 0 ≤ q ∧ q < 12) (hs : ∀ k : Int, 0 ≤ k → k ≤ q → ((97 ≤ sg (12 * x + k) ∧ sg (12 * x + k) ≤ 122) ∨ (65 ≤ sg (12 * x + k) ∧ sg (12 * x + k) ≤ 90) ∨ sg (12 * x + k) = 95)) : Ki (KM G) l yX10_isBeginning cX10_isBeginning 5 .boolean rm_X10_isBeginning [.ref (G.2.2 0), .int (iI x), .int (iI q)] S (po_X10_isBeginning S x q sg) := by
  refine K_start (own := "NameSeekerModel") (by decide +kernel) rfl (Nat.le_of_ble_eq_true rfl) ?_
  intro p e s m args below meth c X hr hlk I ls hl
  have hl : lv_has ls 5 [(0, .ref (G.2.2 0)), (1, .int (iI x)), (2, .int (iI q))] := hl
  have hs0 := hs q (by omega) (by omega)
  refine lv_aload_n X.1 X.2.1 dX10_isBeginning_0 rfl (lv_at hl 0 rfl) ?_
  refine gM_model_signs X I tb_697 dX10_isBeginning_1 ?_
  refine ri_push X (v := 12) (by decide) dX10_isBeginning_4 ?_
  refine lv_iload_n X.1 X.2.1 dX10_isBeginning_6 rfl (lv_at hl 1 rfl) ?_
  refine ri_mul X (v := (12 * x)) rfl dX10_isBeginning_7 ?_
  refine lv_iload_n X.1 X.2.1 dX10_isBeginning_8 rfl (lv_at hl 2 rfl) ?_
  refine ri_add X (v := ((12 * x) + q)) rfl dX10_isBeginning_9 ?_
  refine aM_signs X I (v := (sg ((12 * x) + q))) (e_sg ((12 * x) + q)) (by omega) dX10_isBeginning_10 ?_
  refine lv_istore_n (lv' := [(3, .int (iI (sg ((12 * x) + q)))), (0, .ref (G.2.2 0)), (1, .int (iI x)), (2, .int (iI q))]) X.1 X.2.1 dX10_isBeginning_11 rfl hl (by decide) rfl (fun ls hl => ?_)
  refine lv_iload_n X.1 X.2.1 dX10_isBeginning_12 rfl (lv_at hl 0 rfl) ?_
  refine ri_push X (v := 95) (by decide) dX10_isBeginning_13 ?_
  refine rj_ne (tgt := 20) X (by omega) (by omega) dX10_isBeginning_15 (by decide) (fun c1 => ?_) (fun c1 => ?_)
  · skip
    refine lv_iload_n X.1 X.2.1 dX10_isBeginning_20 rfl (lv_at hl 3 rfl) ?_
    refine rz_ne (tgt := 26) X (by omega) dX10_isBeginning_21 (by decide) (fun c2 => ?_) (fun c2 => ?_)
    · skip
      have e1 : sg (((12 * x) + q) - 1) = sg (12 * x + (q - 1)) := by congr 1; omega
      have hs1 := hs (q - 1) (by omega) (by omega)
      refine lv_aload_n X.1 X.2.1 dX10_isBeginning_26 rfl (lv_at hl 1 rfl) ?_
      refine gM_model_signs X I tb_697 dX10_isBeginning_27 ?_
      refine ri_push X (v := 12) (by decide) dX10_isBeginning_30 ?_
      refine lv_iload_n X.1 X.2.1 dX10_isBeginning_32 rfl (lv_at hl 2 rfl) ?_
      refine ri_mul X (v := (12 * x)) rfl dX10_isBeginning_33 ?_
      refine lv_iload_n X.1 X.2.1 dX10_isBeginning_34 rfl (lv_at hl 3 rfl) ?_
      refine ri_add X (v := ((12 * x) + q)) rfl dX10_isBeginning_35 ?_
      refine ri_const X (v := 1) dX10_isBeginning_36 ?_
      refine ri_sub X (v := (((12 * x) + q) - 1)) rfl dX10_isBeginning_37 ?_
      refine aM_signs X I (v := (sg (((12 * x) + q) - 1))) (e_sg (((12 * x) + q) - 1)) (by omega) dX10_isBeginning_38 ?_
      refine lv_istore (lv' := [(4, .int (iI (sg (((12 * x) + q) - 1)))), (3, .int (iI (sg ((12 * x) + q)))), (0, .ref (G.2.2 0)), (1, .int (iI x)), (2, .int (iI q))]) X.1 X.2.1 dX10_isBeginning_39 hl (by decide) rfl (fun ls hl => ?_)
      refine lv_iload X.1 X.2.1 dX10_isBeginning_41 (lv_at hl 0 rfl) ?_
      refine ri_push X (v := 95) (by decide) dX10_isBeginning_43 ?_
      refine rj_eq (tgt := 63) X (by omega) (by omega) dX10_isBeginning_45 (by decide) (fun c3 => ?_) (fun c3 => ?_)
      · skip
        refine ri_const X (v := 1) dX10_isBeginning_63 ?_
        refine lv_goto (tgt := 68) X.1 X.2.1 dX10_isBeginning_64 (by decide) ?_
        exact rt_i X hr hlk I (by rfl) (by refine ⟨(bI_t ?_).symm, rfl⟩; dsimp only [bgP]; omega) dX10_isBeginning_68
      · skip
        refine lv_iload_n X.1 X.2.1 dX10_isBeginning_48 rfl (lv_at hl 1 rfl) ?_
        refine cl_i I (runS (As := [.int (iI (sg ((12 * x) + q)))]) (rest := []) X (k_X10_isGreat l G S  (sg ((12 * x) + q))  (by omega)) (gdC tb_854 gdB) tb_852 tb_853 tb_48 ⟨ok_X10_isGreat, ⟨Nat.le_of_ble_eq_true rfl, Nat.le_of_ble_eq_true rfl⟩, rfl, rfl⟩ (PreS.of I) rfl hl.1 rfl (Nat.le_of_ble_eq_true rfl) dX10_isBeginning_49 ⟨Nat.zero_le _, Nat.zero_le _⟩) (fun r4 S5 H locs q6 I => ?_)
        obtain ⟨e1_, e2_⟩ := q6
        rw [e2_] at I
        rw [e1_]
        clear e1_ e2_
        rcases Decidable.em ((65 ≤ ((sg ((12 * x) + q))) ∧ ((sg ((12 * x) + q))) ≤ 90)) with b7 | b7
        · rw [bI_t b7]
          refine rz_eq (tgt := 67) X (by omega) dX10_isBeginning_52 (by decide) (fun c8 => absurd c8 (by decide)) (fun _ => ?_)
          refine lv_iload X.1 X.2.1 dX10_isBeginning_55 (lv_at hl 0 rfl) ?_
          refine cl_i I (runS (As := [.int (iI (sg (((12 * x) + q) - 1)))]) (rest := []) X (k_X10_isSmall l G S  (sg (((12 * x) + q) - 1))  (by omega)) (gdC tb_851 gdB) tb_849 tb_850 tb_48 ⟨ok_X10_isSmall, ⟨Nat.le_of_ble_eq_true rfl, Nat.le_of_ble_eq_true rfl⟩, rfl, rfl⟩ (PreS.of I) rfl hl.1 rfl (Nat.le_of_ble_eq_true rfl) dX10_isBeginning_57 ⟨Nat.zero_le _, Nat.zero_le _⟩) (fun r9 S10 H locs q11 I => ?_)
          obtain ⟨e1_, e2_⟩ := q11
          rw [e2_] at I
          rw [e1_]
          clear e1_ e2_
          rcases Decidable.em ((97 ≤ ((sg (((12 * x) + q) - 1))) ∧ ((sg (((12 * x) + q) - 1))) ≤ 122)) with b12 | b12
          · rw [bI_t b12]
            refine rz_eq (tgt := 67) X (by omega) dX10_isBeginning_60 (by decide) (fun c13 => absurd c13 (by decide)) (fun _ => ?_)
            refine ri_const X (v := 1) dX10_isBeginning_63 ?_
            refine lv_goto (tgt := 68) X.1 X.2.1 dX10_isBeginning_64 (by decide) ?_
            exact rt_i X hr hlk I (by rfl) (by refine ⟨(bI_t ?_).symm, rfl⟩; dsimp only [bgP]; omega) dX10_isBeginning_68
          · rw [bI_f b12]
            refine rz_eq (tgt := 67) X (by omega) dX10_isBeginning_60 (by decide) (fun _ => ?_) (fun c14 => absurd c14 (fun q => q (by decide)))
            refine ri_const X (v := 0) dX10_isBeginning_67 ?_
            exact rt_i X hr hlk I (by rfl) (by refine ⟨(bI_f ?_).symm, rfl⟩; dsimp only [bgP]; omega) dX10_isBeginning_68
        · rw [bI_f b7]
          refine rz_eq (tgt := 67) X (by omega) dX10_isBeginning_52 (by decide) (fun _ => ?_) (fun c15 => absurd c15 (fun q => q (by decide)))
          refine ri_const X (v := 0) dX10_isBeginning_67 ?_
          exact rt_i X hr hlk I (by rfl) (by refine ⟨(bI_f ?_).symm, rfl⟩; dsimp only [bgP]; omega) dX10_isBeginning_68
    · skip
      refine ri_const X (v := 1) dX10_isBeginning_24 ?_
      exact rt_i X hr hlk I (by rfl) (by refine ⟨(bI_t ?_).symm, rfl⟩; dsimp only [bgP]; omega) dX10_isBeginning_25
  · skip
    refine ri_const X (v := 0) dX10_isBeginning_18 ?_
    exact rt_i X hr hlk I (by rfl) (by refine ⟨(bI_f ?_).symm, rfl⟩; dsimp only [bgP]; omega) dX10_isBeginning_19

theorem ok_X10_name : yX10_name.cls ≠ "java/lang/invoke/MethodHandle" ∧ yX10_name.cls ≠ "java/lang/invoke/VarHandle" ∧ (parseMethodDescriptor yX10_name.desc).map (fun d => d.parameters.length) = some 2 := ⟨by decide +kernel, by decide +kernel, by decide +kernel⟩
abbrev po_X10_name (S : St)  (x : Int) (u : Int) : Int → St → Prop := fun r S1 => ((¬ (0 ≤ x ∧ x < S.1 51 0) ∨ ¬ (0 ≤ u ∧ u ≤ 4)) ∧ r = -1 ∧ S1 = S) ∨ ((0 ≤ x ∧ x < S.1 51 0) ∧ ((u = 0 ∧ r = S.1 4 x) ∨ (u = 1 ∧ r = S.1 3 x) ∨ (u = 2 ∧ r = S.1 5 x) ∨ (u = 3 ∧ r = S.1 6 x) ∨ (u = 4 ∧ r = bgv (fun z_ => S.1 2 (12 * x + z_)) (S.1 3 x).toNat)) ∧ S1 = S)
abbrev rm_X10_name : Room := ({ frames := 2, cells := 0, slots := 0, locals := 44 } : Room)
set_option maxRecDepth 100000 in
set_option maxHeartbeats 4000000 in
theorem k_X10_name (l : Launch) (G : Ge) (S : St)  (x : Int) (u : Int)  (hx : -2147483648 ≤ x ∧ x < 2147483648) (hu : -2147483648 ≤ u ∧ u < 2147483648) (hI : MI S.1) : Ki (KM G) l yX10_name cX10_name 5 .int rm_X10_name [.ref (G.2.2 0), .int (iI x), .int (iI u)] S (po_X10_name S x u) := by
  refine K_start (own := "NameSeekerModel") (by decide +kernel) rfl (Nat.le_of_ble_eq_true rfl) ?_
  intro p e s m args below meth c X hr hlk I ls hl
  have hl : lv_has ls 5 [(0, .ref (G.2.2 0)), (1, .int (iI x)), (2, .int (iI u))] := hl
  obtain ⟨ht, hc, hn, hnm, hw, hwd, hkp, hcn, has, hkn⟩ := hI
  refine lv_aload_n X.1 X.2.1 dX10_name_0 rfl (lv_at hl 0 rfl) ?_
  refine lv_iload_n X.1 X.2.1 dX10_name_1 rfl (lv_at hl 1 rfl) ?_
  refine cl_i I (runV (As := [.int (iI x)]) (rest := []) X (k_X10_isName l G S  x (S.1 51 0) rfl (by omega) (by omega)) (gdC tb_867 (gdC tb_869 (gdC tb_18 (gdC tb_48 (gdC tb_870 gdB))))) ⟨ok_X10_isName, ⟨Nat.le_of_ble_eq_true rfl, Nat.le_of_ble_eq_true rfl⟩, rfl, rfl⟩ (PreV.of (C := RX10) (T := TX10) (N := 41) I (atM_model) rfl) rfl hl.1 rfl (Nat.le_of_ble_eq_true rfl) dX10_name_2 ⟨Nat.zero_le _, Nat.zero_le _⟩) (fun r1 S2 H locs q3 I => ?_)
  obtain ⟨e1_, e2_⟩ := q3
  rw [e2_] at I
  rw [e1_]
  clear e1_ e2_
  rcases Decidable.em ((0 ≤ x ∧ x < (S.1 51 0))) with b4 | b4
  · rw [bI_t b4]
    refine rz_eq (tgt := 17) X (by omega) dX10_name_5 (by decide) (fun c5 => absurd c5 (by decide)) (fun _ => ?_)
    refine lv_iload_n X.1 X.2.1 dX10_name_8 rfl (lv_at hl 2 rfl) ?_
    refine rz_lt (tgt := 17) X (by omega) dX10_name_9 (by decide) (fun c6 => ?_) (fun c6 => ?_)
    · skip
      refine ri_const X (v := (-1)) dX10_name_17 ?_
      exact rt_i X hr hlk I rfl (by exact Or.inl ⟨by omega, rfl, rfl⟩) dX10_name_18
    · skip
      refine lv_iload_n X.1 X.2.1 dX10_name_12 rfl (lv_at hl 2 rfl) ?_
      refine ri_const X (v := 4) dX10_name_13 ?_
      refine rj_le (tgt := 19) X (by omega) (by omega) dX10_name_14 (by decide) (fun c7 => ?_) (fun c7 => ?_)
      · skip
        have hnx := hnm x (by omega) (by omega)
        obtain ⟨hn1, hn2, hn3, hn4, hn5⟩ := hnx
        refine lv_iload_n X.1 X.2.1 dX10_name_19 rfl (lv_at hl 2 rfl) ?_
        refine rz_ne (tgt := 30) X (by omega) dX10_name_20 (by decide) (fun c8 => ?_) (fun c8 => ?_)
        · skip
          refine lv_iload_n X.1 X.2.1 dX10_name_30 rfl (lv_at hl 2 rfl) ?_
          refine ri_const X (v := 1) dX10_name_31 ?_
          refine rj_ne (tgt := 42) X (by omega) (by omega) dX10_name_32 (by decide) (fun c9 => ?_) (fun c9 => ?_)
          · skip
            refine lv_iload_n X.1 X.2.1 dX10_name_42 rfl (lv_at hl 2 rfl) ?_
            refine ri_const X (v := 2) dX10_name_43 ?_
            refine rj_ne (tgt := 54) X (by omega) (by omega) dX10_name_44 (by decide) (fun c10 => ?_) (fun c10 => ?_)
            · skip
              refine lv_iload_n X.1 X.2.1 dX10_name_54 rfl (lv_at hl 2 rfl) ?_
              refine ri_const X (v := 3) dX10_name_55 ?_
              refine rj_ne (tgt := 66) X (by omega) (by omega) dX10_name_56 (by decide) (fun c11 => ?_) (fun c11 => ?_)
              · skip
                refine ri_const X (v := 0) dX10_name_66 ?_
                refine lv_istore_n (lv' := [(3, .int (iI 0)), (0, .ref (G.2.2 0)), (1, .int (iI x)), (2, .int (iI u))]) X.1 X.2.1 dX10_name_67 rfl hl (by decide) rfl (fun ls hl => ?_)
                refine ri_const X (v := 0) dX10_name_68 ?_
                refine lv_istore (lv' := [(4, .int (iI 0)), (3, .int (iI 0)), (0, .ref (G.2.2 0)), (1, .int (iI x)), (2, .int (iI u))]) X.1 X.2.1 dX10_name_69 hl (by decide) rfl (fun ls hl => ?_)
                have lp_71 : ∀ (fu_ : Nat) (k : Int), (12 - k).toNat < fu_ → ∀ (hk : 0 ≤ k ∧ k ≤ S.1 3 x) (hbr : 0 ≤ bgv (fun z_ => S.1 2 (12 * x + z_)) k.toNat ∧ bgv (fun z_ => S.1 2 (12 * x + z_)) k.toNat < 4096) (H : Heap) (locs : List Loc), In (KM G) s s.heap H locs S → ∀ ls : Array Slot, lv_has ls 5 [(0, .ref (G.2.2 0)), (1, .int (iI x)), (2, .int (iI u)), (3, .int (iI (bgv (fun z_ => S.1 2 (12 * x + z_)) k.toNat))), (4, .int (iI k))] → W p l e rm_X10_name s m args below meth c H locs 0 0 (MQ below (QI (KM G) (po_X10_name S x u)) args s 0 0 (KM G).2.2.2) (F0 m 71 ls []) := by
                  intro fu_
                  induction fu_ with
                  | zero => intro k hm; exact absurd hm (by omega)
                  | succ fu_ ih_71 =>
                    intro k hm_71 hk hbr H locs I ls hl
                    refine lv_iload X.1 X.2.1 dX10_name_71 (lv_at hl 4 rfl) ?_
                    refine lv_aload_n X.1 X.2.1 dX10_name_73 rfl (lv_at hl 0 rfl) ?_
                    refine gM_model_sizes X I tb_698 dX10_name_74 ?_
                    refine lv_iload_n X.1 X.2.1 dX10_name_77 rfl (lv_at hl 1 rfl) ?_
                    refine aM_sizes X I (v := (S.1 3 x)) rfl (by omega) dX10_name_78 ?_
                    refine rj_ge (tgt := 105) X (by omega) (by omega) dX10_name_79 (by decide) (fun c12 => ?_) (fun c12 => ?_)
                    · skip
                      refine lv_iload_n X.1 X.2.1 dX10_name_105 rfl (lv_at hl 3 rfl) ?_
                      exact rt_i X hr hlk I rfl (by exact Or.inr (⟨by omega, Or.inr (Or.inr (Or.inr (Or.inr (⟨by omega, by rw [show S.1 3 x = k by omega]⟩)))), rfl⟩)) dX10_name_106
                    · skip
                      refine lv_aload_n X.1 X.2.1 dX10_name_82 rfl (lv_at hl 0 rfl) ?_
                      refine lv_iload_n X.1 X.2.1 dX10_name_83 rfl (lv_at hl 1 rfl) ?_
                      refine lv_iload X.1 X.2.1 dX10_name_84 (lv_at hl 4 rfl) ?_
                      refine cl_i I (runV (As := [.int (iI x), .int (iI k)]) (rest := []) X (k_X10_isBeginning l G S  x k (S.1 2) (fun i_ => rfl) (by omega) (by omega) (fun y h1 h2 => hn5 y h1 (by omega))) (gdC tb_871 (gdC tb_873 (gdC tb_19 (gdC tb_48 (gdC tb_874 gdB))))) ⟨ok_X10_isBeginning, ⟨Nat.le_of_ble_eq_true rfl, Nat.le_of_ble_eq_true rfl⟩, rfl, rfl⟩ (PreV.of (C := RX10) (T := TX10) (N := 41) I (atM_model) rfl) rfl hl.1 rfl (Nat.le_of_ble_eq_true rfl) dX10_name_86 ⟨Nat.zero_le _, Nat.zero_le _⟩) (fun r13 S14 H locs q15 I => ?_)
                      obtain ⟨e1_, e2_⟩ := q15
                      rw [e2_] at I
                      rw [e1_]
                      clear e1_ e2_
                      rcases Decidable.em (bgP (fun z_ => (S.1 2) (12 * x + z_)) k) with b16 | b16
                      · rw [bI_t b16]
                        refine rz_eq (tgt := 99) X (by omega) dX10_name_89 (by decide) (fun c17 => absurd c17 (by decide)) (fun _ => ?_)
                        refine lv_iload_n X.1 X.2.1 dX10_name_92 rfl (lv_at hl 3 rfl) ?_
                        refine ri_const X (v := 1) dX10_name_93 ?_
                        refine lv_iload X.1 X.2.1 dX10_name_94 (lv_at hl 4 rfl) ?_
                        refine ri_shl X (by omega) dX10_name_96 ?_
                        have t18 := pw_r (k := k) (by omega)
                        refine ri_add X (v := ((bgv (fun z_ => S.1 2 (12 * x + z_)) k.toNat) + (pw k))) rfl dX10_name_97 ?_
                        refine lv_istore_n (lv' := [(3, .int (iI ((bgv (fun z_ => S.1 2 (12 * x + z_)) k.toNat) + (pw k)))), (0, .ref (G.2.2 0)), (1, .int (iI x)), (2, .int (iI u)), (4, .int (iI k))]) X.1 X.2.1 dX10_name_98 rfl hl (by decide) rfl (fun ls hl => ?_)
                        refine ri_iinc X (k := 4) (v := (k + 1)) (lv' := [(4, .int (iI (k + 1))), (3, .int (iI ((bgv (fun z_ => S.1 2 (12 * x + z_)) k.toNat) + (pw k)))), (0, .ref (G.2.2 0)), (1, .int (iI x)), (2, .int (iI u))]) rfl dX10_name_99 hl rfl (by decide) rfl (fun ls hl => ?_)
                        refine lv_goto (tgt := 71) X.1 X.2.1 dX10_name_102 (by decide) ?_
                        have hl : lv_has ls 5 [(4, .int (iI (k + 1))), (3, .int (iI (bgv (fun z_ => S.1 2 (12 * x + z_)) (k + 1).toNat))), (0, .ref (G.2.2 0)), (1, .int (iI x)), (2, .int (iI u))] := by
                          have e_ : ((bgv (fun z_ => S.1 2 (12 * x + z_)) k.toNat) + (pw k)) = (bgv (fun z_ => S.1 2 (12 * x + z_)) (k + 1).toNat) := by first | exact (bgv_y (by omega) (by assumption)).symm | exact (bgv_n (by omega) (by assumption)).symm
                          rw [← e_]; exact hl
                        exact ih_71 (k + 1) (by omega) (by omega) (bgv_4096 _ _ (by omega)) _ _ I ls (lv_sub hl [2, 3, 4, 1, 0] rfl)
                      · rw [bI_f b16]
                        refine rz_eq (tgt := 99) X (by omega) dX10_name_89 (by decide) (fun _ => ?_) (fun c19 => absurd c19 (fun q => q (by decide)))
                        refine ri_iinc X (k := 4) (v := (k + 1)) (lv' := [(4, .int (iI (k + 1))), (0, .ref (G.2.2 0)), (1, .int (iI x)), (2, .int (iI u)), (3, .int (iI (bgv (fun z_ => S.1 2 (12 * x + z_)) k.toNat)))]) rfl dX10_name_99 hl rfl (by decide) rfl (fun ls hl => ?_)
                        refine lv_goto (tgt := 71) X.1 X.2.1 dX10_name_102 (by decide) ?_
                        have hl : lv_has ls 5 [(4, .int (iI (k + 1))), (0, .ref (G.2.2 0)), (1, .int (iI x)), (2, .int (iI u)), (3, .int (iI (bgv (fun z_ => S.1 2 (12 * x + z_)) (k + 1).toNat)))] := by
                          have e_ : (bgv (fun z_ => S.1 2 (12 * x + z_)) k.toNat) = (bgv (fun z_ => S.1 2 (12 * x + z_)) (k + 1).toNat) := by first | exact (bgv_y (by omega) (by assumption)).symm | exact (bgv_n (by omega) (by assumption)).symm
                          rw [← e_]; exact hl
                        exact ih_71 (k + 1) (by omega) (by omega) (bgv_4096 _ _ (by omega)) _ _ I ls (lv_sub hl [1, 2, 3, 4, 0] rfl)
                have hl : lv_has ls 5 [(4, .int (iI 0)), (3, .int (iI (bgv (fun z_ => S.1 2 (12 * x + z_)) (0 : Int).toNat))), (0, .ref (G.2.2 0)), (1, .int (iI x)), (2, .int (iI u))] := by
                  have e_ : 0 = (bgv (fun z_ => S.1 2 (12 * x + z_)) (0 : Int).toNat) := rfl
                  rw [← e_]; exact hl
                exact lp_71 (13) 0 (by omega) (by omega) (by show 0 ≤ (0 : Int) ∧ (0 : Int) < 4096; omega) _ _ I ls (lv_sub hl [2, 3, 4, 1, 0] rfl)
              · skip
                refine lv_aload_n X.1 X.2.1 dX10_name_59 rfl (lv_at hl 0 rfl) ?_
                refine gM_model_picks X I tb_701 dX10_name_60 ?_
                refine lv_iload_n X.1 X.2.1 dX10_name_63 rfl (lv_at hl 1 rfl) ?_
                refine aM_picks X I (v := (S.1 6 x)) rfl (by omega) dX10_name_64 ?_
                exact rt_i X hr hlk I rfl (by exact Or.inr (⟨by omega, Or.inr (Or.inr (Or.inr (Or.inl ⟨by omega, rfl⟩))), rfl⟩)) dX10_name_65
            · skip
              refine lv_aload_n X.1 X.2.1 dX10_name_47 rfl (lv_at hl 0 rfl) ?_
              refine gM_model_ids X I tb_700 dX10_name_48 ?_
              refine lv_iload_n X.1 X.2.1 dX10_name_51 rfl (lv_at hl 1 rfl) ?_
              refine aM_ids X I (v := (S.1 5 x)) rfl (by omega) dX10_name_52 ?_
              exact rt_i X hr hlk I rfl (by exact Or.inr (⟨by omega, Or.inr (Or.inr (Or.inl ⟨by omega, rfl⟩)), rfl⟩)) dX10_name_53
          · skip
            refine lv_aload_n X.1 X.2.1 dX10_name_35 rfl (lv_at hl 0 rfl) ?_
            refine gM_model_sizes X I tb_698 dX10_name_36 ?_
            refine lv_iload_n X.1 X.2.1 dX10_name_39 rfl (lv_at hl 1 rfl) ?_
            refine aM_sizes X I (v := (S.1 3 x)) rfl (by omega) dX10_name_40 ?_
            exact rt_i X hr hlk I rfl (by exact Or.inr (⟨by omega, Or.inr (Or.inl ⟨by omega, rfl⟩), rfl⟩)) dX10_name_41
        · skip
          refine lv_aload_n X.1 X.2.1 dX10_name_23 rfl (lv_at hl 0 rfl) ?_
          refine gM_model_kinds X I tb_699 dX10_name_24 ?_
          refine lv_iload_n X.1 X.2.1 dX10_name_27 rfl (lv_at hl 1 rfl) ?_
          refine aM_kinds X I (v := (S.1 4 x)) rfl (by omega) dX10_name_28 ?_
          exact rt_i X hr hlk I rfl (by exact Or.inr (⟨by omega, Or.inl ⟨by omega, rfl⟩, rfl⟩)) dX10_name_29
      · skip
        refine ri_const X (v := (-1)) dX10_name_17 ?_
        exact rt_i X hr hlk I rfl (by exact Or.inl ⟨by omega, rfl, rfl⟩) dX10_name_18
  · rw [bI_f b4]
    refine rz_eq (tgt := 17) X (by omega) dX10_name_5 (by decide) (fun _ => ?_) (fun c20 => absurd c20 (fun q => q (by decide)))
    refine ri_const X (v := (-1)) dX10_name_17 ?_
    exact rt_i X hr hlk I rfl (by exact Or.inl ⟨by omega, rfl, rfl⟩) dX10_name_18

theorem ok_X10_sign : yX10_sign.cls ≠ "java/lang/invoke/MethodHandle" ∧ yX10_sign.cls ≠ "java/lang/invoke/VarHandle" ∧ (parseMethodDescriptor yX10_sign.desc).map (fun d => d.parameters.length) = some 2 := ⟨by decide +kernel, by decide +kernel, by decide +kernel⟩
abbrev po_X10_sign (S : St)  (x : Int) (u : Int) : Int → St → Prop := fun r S1 => ((¬ (0 ≤ x ∧ x < S.1 51 0) ∨ u < 0) ∧ r = -1 ∧ S1 = S) ∨ ((0 ≤ x ∧ x < S.1 51 0) ∧ 0 ≤ u ∧ r = (if u < S.1 3 x then S.1 2 (12 * x + u) else -4) ∧ S1 = S)
abbrev rm_X10_sign : Room := ({ frames := 1, cells := 0, slots := 0, locals := 21 } : Room)
set_option maxRecDepth 100000 in
set_option maxHeartbeats 4000000 in
theorem k_X10_sign (l : Launch) (G : Ge) (S : St)  (x : Int) (u : Int)  (hx : -2147483648 ≤ x ∧ x < 2147483648) (hu : -2147483648 ≤ u ∧ u < 2147483648) (hI : MI S.1) : Ki (KM G) l yX10_sign cX10_sign 3 .int rm_X10_sign [.ref (G.2.2 0), .int (iI x), .int (iI u)] S (po_X10_sign S x u) := by
  refine K_start (own := "NameSeekerModel") (by decide +kernel) rfl (Nat.le_of_ble_eq_true rfl) ?_
  intro p e s m args below meth c X hr hlk I ls hl
  have hl : lv_has ls 3 [(0, .ref (G.2.2 0)), (1, .int (iI x)), (2, .int (iI u))] := hl
  obtain ⟨ht, hc, hn, hnm, hw, hwd, hkp, hcn, has, hkn⟩ := hI
  refine lv_aload_n X.1 X.2.1 dX10_sign_0 rfl (lv_at hl 0 rfl) ?_
  refine lv_iload_n X.1 X.2.1 dX10_sign_1 rfl (lv_at hl 1 rfl) ?_
  refine cl_i I (runV (As := [.int (iI x)]) (rest := []) X (k_X10_isName l G S  x (S.1 51 0) rfl (by omega) (by omega)) (gdC tb_867 (gdC tb_869 (gdC tb_18 (gdC tb_48 (gdC tb_870 gdB))))) ⟨ok_X10_isName, ⟨Nat.le_of_ble_eq_true rfl, Nat.le_of_ble_eq_true rfl⟩, rfl, rfl⟩ (PreV.of (C := RX10) (T := TX10) (N := 41) I (atM_model) rfl) rfl hl.1 rfl (Nat.le_of_ble_eq_true rfl) dX10_sign_2 ⟨Nat.zero_le _, Nat.zero_le _⟩) (fun r1 S2 H locs q3 I => ?_)
  obtain ⟨e1_, e2_⟩ := q3
  rw [e2_] at I
  rw [e1_]
  clear e1_ e2_
  rcases Decidable.em ((0 ≤ x ∧ x < (S.1 51 0))) with b4 | b4
  · rw [bI_t b4]
    refine rz_eq (tgt := 12) X (by omega) dX10_sign_5 (by decide) (fun c5 => absurd c5 (by decide)) (fun _ => ?_)
    refine lv_iload_n X.1 X.2.1 dX10_sign_8 rfl (lv_at hl 2 rfl) ?_
    refine rz_ge (tgt := 14) X (by omega) dX10_sign_9 (by decide) (fun c6 => ?_) (fun c6 => ?_)
    · skip
      have hnx := hnm x (by omega) (by omega)
      obtain ⟨hn1, hn2, hn3, hn4, hn5⟩ := hnx
      refine lv_iload_n X.1 X.2.1 dX10_sign_14 rfl (lv_at hl 2 rfl) ?_
      refine lv_aload_n X.1 X.2.1 dX10_sign_15 rfl (lv_at hl 0 rfl) ?_
      refine gM_model_sizes X I tb_698 dX10_sign_16 ?_
      refine lv_iload_n X.1 X.2.1 dX10_sign_19 rfl (lv_at hl 1 rfl) ?_
      refine aM_sizes X I (v := (S.1 3 x)) rfl (by omega) dX10_sign_20 ?_
      refine rj_ge (tgt := 38) X (by omega) (by omega) dX10_sign_21 (by decide) (fun c7 => ?_) (fun c7 => ?_)
      · skip
        refine ri_push X (v := (-4)) (by decide) dX10_sign_38 ?_
        exact rt_i X hr hlk I rfl (by exact Or.inr (⟨by omega, by omega, by first | rw [if_pos (by omega)] | rw [if_neg (by omega)], rfl⟩)) dX10_sign_40
      · skip
        have hn6 := hn5 u (by omega) (by omega)
        refine lv_aload_n X.1 X.2.1 dX10_sign_24 rfl (lv_at hl 0 rfl) ?_
        refine gM_model_signs X I tb_697 dX10_sign_25 ?_
        refine ri_push X (v := 12) (by decide) dX10_sign_28 ?_
        refine lv_iload_n X.1 X.2.1 dX10_sign_30 rfl (lv_at hl 1 rfl) ?_
        refine ri_mul X (v := (12 * x)) rfl dX10_sign_31 ?_
        refine lv_iload_n X.1 X.2.1 dX10_sign_32 rfl (lv_at hl 2 rfl) ?_
        refine ri_add X (v := ((12 * x) + u)) rfl dX10_sign_33 ?_
        refine aM_signs X I (v := (S.1 2 ((12 * x) + u))) rfl (by omega) dX10_sign_34 ?_
        refine lv_goto (tgt := 40) X.1 X.2.1 dX10_sign_35 (by decide) ?_
        exact rt_i X hr hlk I rfl (by exact Or.inr (⟨by omega, by omega, by first | rw [if_pos (by omega)] | rw [if_neg (by omega)], rfl⟩)) dX10_sign_40
    · skip
      refine ri_const X (v := (-1)) dX10_sign_12 ?_
      exact rt_i X hr hlk I rfl (by exact Or.inl ⟨by omega, rfl, rfl⟩) dX10_sign_13
  · rw [bI_f b4]
    refine rz_eq (tgt := 12) X (by omega) dX10_sign_5 (by decide) (fun _ => ?_) (fun c8 => absurd c8 (fun q => q (by decide)))
    refine ri_const X (v := (-1)) dX10_sign_12 ?_
    exact rt_i X hr hlk I rfl (by exact Or.inl ⟨by omega, rfl, rfl⟩) dX10_sign_13

theorem ok_X10_type : yX10_type.cls ≠ "java/lang/invoke/MethodHandle" ∧ yX10_type.cls ≠ "java/lang/invoke/VarHandle" ∧ (parseMethodDescriptor yX10_type.desc).map (fun d => d.parameters.length) = some 1 := ⟨by decide +kernel, by decide +kernel, by decide +kernel⟩
abbrev po_X10_type (S : St)  (x : Int) : Int → St → Prop := fun r S1 => (¬ ((97 ≤ x ∧ x ≤ 122) ∨ (65 ≤ x ∧ x ≤ 90)) ∧ r = -1 ∧ S1 = S) ∨ (((97 ≤ x ∧ x ≤ 122) ∨ (65 ≤ x ∧ x ≤ 90)) ∧ S.1 53 0 = 6 ∧ r = -3 ∧ S1 = S) ∨ (((97 ≤ x ∧ x ≤ 122) ∨ (65 ≤ x ∧ x ≤ 90)) ∧ S.1 53 0 < 6 ∧ r = S.1 53 0 + 1 ∧ S1 = (us (ua S.1 12 (S.1 53 0) x) 53 (S.1 53 0 + 1), S.2))
abbrev rm_X10_type : Room := ({ frames := 1, cells := 0, slots := 0, locals := 20 } : Room)
set_option maxRecDepth 100000 in
set_option maxHeartbeats 4000000 in
theorem k_X10_type (l : Launch) (G : Ge) (S : St)  (x : Int)  (hx : -2147483648 ≤ x ∧ x < 2147483648) (hI : MI S.1) : Ki (KM G) l yX10_type cX10_type 2 .int rm_X10_type [.ref (G.2.2 0), .int (iI x)] S (po_X10_type S x) := by
  refine K_start (own := "NameSeekerModel") (by decide +kernel) rfl (Nat.le_of_ble_eq_true rfl) ?_
  intro p e s m args below meth c X hr hlk I ls hl
  have hl : lv_has ls 2 [(0, .ref (G.2.2 0)), (1, .int (iI x))] := hl
  obtain ⟨ht, hc, hn, hnm, hw, hwd, hkp, hcn, has, hkn⟩ := hI
  refine lv_iload_n X.1 X.2.1 dX10_type_0 rfl (lv_at hl 1 rfl) ?_
  refine cl_i I (runS (As := [.int (iI x)]) (rest := []) X (k_X10_isSmall l G S  x  (by omega)) (gdC tb_851 gdB) tb_849 tb_850 tb_48 ⟨ok_X10_isSmall, ⟨Nat.le_of_ble_eq_true rfl, Nat.le_of_ble_eq_true rfl⟩, rfl, rfl⟩ (PreS.of I) rfl hl.1 rfl (Nat.le_of_ble_eq_true rfl) dX10_type_1 ⟨Nat.zero_le _, Nat.zero_le _⟩) (fun r1 S2 H locs q3 I => ?_)
  obtain ⟨e1_, e2_⟩ := q3
  rw [e2_] at I
  rw [e1_]
  clear e1_ e2_
  rcases Decidable.em ((97 ≤ (x) ∧ (x) ≤ 122)) with b4 | b4
  · rw [bI_t b4]
    refine rz_ne (tgt := 16) X (by omega) dX10_type_4 (by decide) (fun _ => ?_) (fun c5 => absurd c5 (by decide))
    refine lv_aload_n X.1 X.2.1 dX10_type_16 rfl (lv_at hl 0 rfl) ?_
    refine gM_model_wordSize X I (v := (S.1 53 0)) rfl tb_708 dX10_type_17 ?_
    refine ri_push X (v := 6) (by decide) dX10_type_20 ?_
    refine rj_ne (tgt := 28) X (by omega) (by omega) dX10_type_22 (by decide) (fun c6 => ?_) (fun c6 => ?_)
    · skip
      refine lv_aload_n X.1 X.2.1 dX10_type_28 rfl (lv_at hl 0 rfl) ?_
      refine gM_model_wordRow X I tb_709 dX10_type_29 ?_
      refine lv_aload_n X.1 X.2.1 dX10_type_32 rfl (lv_at hl 0 rfl) ?_
      refine gM_model_wordSize X I (v := (S.1 53 0)) rfl tb_708 dX10_type_33 ?_
      refine lv_iload_n X.1 X.2.1 dX10_type_36 rfl (lv_at hl 1 rfl) ?_
      refine qM_wordRow X I (by omega) dX10_type_37 (fun H locs I => ?_)
      have I : In (KM G) s s.heap H locs ((ua S.1 12 (S.1 53 0) x), S.2) := I
      refine lv_aload_n X.1 X.2.1 dX10_type_38 rfl (lv_at hl 0 rfl) ?_
      refine lv_dup X.1 X.2.1 dX10_type_39 rfl ?_
      refine gM_model_wordSize X I (v := (S.1 53 0)) (by show (ua S.1 12 (S.1 53 0) x) 53 0 = _; rw [ua_nc (by decide)]) tb_708 dX10_type_40 ?_
      refine ri_const X (v := 1) dX10_type_43 ?_
      refine ri_add X (v := ((S.1 53 0) + 1)) rfl dX10_type_44 ?_
      refine pM_model_wordSize X I tb_708 dX10_type_45 (fun H locs I => ?_)
      have I : In (KM G) s s.heap H locs ((us (ua S.1 12 (S.1 53 0) x) 53 ((S.1 53 0) + 1)), S.2) := I
      refine lv_aload_n X.1 X.2.1 dX10_type_48 rfl (lv_at hl 0 rfl) ?_
      refine gM_model_wordSize X I (v := ((S.1 53 0) + 1)) (by show (us (ua S.1 12 (S.1 53 0) x) 53 ((S.1 53 0) + 1)) 53 0 = _; rw [us_eq]) tb_708 dX10_type_49 ?_
      exact rt_i X hr hlk I rfl (by exact Or.inr (Or.inr (⟨by omega, by omega, rfl, rfl⟩))) dX10_type_52
    · skip
      refine ri_push X (v := (-3)) (by decide) dX10_type_25 ?_
      exact rt_i X hr hlk I rfl (by exact Or.inr (Or.inl ⟨by omega, by omega, rfl, rfl⟩)) dX10_type_27
  · rw [bI_f b4]
    refine rz_ne (tgt := 16) X (by omega) dX10_type_4 (by decide) (fun c7 => absurd c7 (by decide)) (fun _ => ?_)
    refine lv_iload_n X.1 X.2.1 dX10_type_7 rfl (lv_at hl 1 rfl) ?_
    refine cl_i I (runS (As := [.int (iI x)]) (rest := []) X (k_X10_isGreat l G S  x  (by omega)) (gdC tb_854 gdB) tb_852 tb_853 tb_48 ⟨ok_X10_isGreat, ⟨Nat.le_of_ble_eq_true rfl, Nat.le_of_ble_eq_true rfl⟩, rfl, rfl⟩ (PreS.of I) rfl hl.1 rfl (Nat.le_of_ble_eq_true rfl) dX10_type_8 ⟨Nat.zero_le _, Nat.zero_le _⟩) (fun r8 S9 H locs q10 I => ?_)
    obtain ⟨e1_, e2_⟩ := q10
    rw [e2_] at I
    rw [e1_]
    clear e1_ e2_
    rcases Decidable.em ((65 ≤ (x) ∧ (x) ≤ 90)) with b11 | b11
    · rw [bI_t b11]
      refine rz_ne (tgt := 16) X (by omega) dX10_type_11 (by decide) (fun _ => ?_) (fun c12 => absurd c12 (by decide))
      refine lv_aload_n X.1 X.2.1 dX10_type_16 rfl (lv_at hl 0 rfl) ?_
      refine gM_model_wordSize X I (v := (S.1 53 0)) rfl tb_708 dX10_type_17 ?_
      refine ri_push X (v := 6) (by decide) dX10_type_20 ?_
      refine rj_ne (tgt := 28) X (by omega) (by omega) dX10_type_22 (by decide) (fun c13 => ?_) (fun c13 => ?_)
      · skip
        refine lv_aload_n X.1 X.2.1 dX10_type_28 rfl (lv_at hl 0 rfl) ?_
        refine gM_model_wordRow X I tb_709 dX10_type_29 ?_
        refine lv_aload_n X.1 X.2.1 dX10_type_32 rfl (lv_at hl 0 rfl) ?_
        refine gM_model_wordSize X I (v := (S.1 53 0)) rfl tb_708 dX10_type_33 ?_
        refine lv_iload_n X.1 X.2.1 dX10_type_36 rfl (lv_at hl 1 rfl) ?_
        refine qM_wordRow X I (by omega) dX10_type_37 (fun H locs I => ?_)
        have I : In (KM G) s s.heap H locs ((ua S.1 12 (S.1 53 0) x), S.2) := I
        refine lv_aload_n X.1 X.2.1 dX10_type_38 rfl (lv_at hl 0 rfl) ?_
        refine lv_dup X.1 X.2.1 dX10_type_39 rfl ?_
        refine gM_model_wordSize X I (v := (S.1 53 0)) (by show (ua S.1 12 (S.1 53 0) x) 53 0 = _; rw [ua_nc (by decide)]) tb_708 dX10_type_40 ?_
        refine ri_const X (v := 1) dX10_type_43 ?_
        refine ri_add X (v := ((S.1 53 0) + 1)) rfl dX10_type_44 ?_
        refine pM_model_wordSize X I tb_708 dX10_type_45 (fun H locs I => ?_)
        have I : In (KM G) s s.heap H locs ((us (ua S.1 12 (S.1 53 0) x) 53 ((S.1 53 0) + 1)), S.2) := I
        refine lv_aload_n X.1 X.2.1 dX10_type_48 rfl (lv_at hl 0 rfl) ?_
        refine gM_model_wordSize X I (v := ((S.1 53 0) + 1)) (by show (us (ua S.1 12 (S.1 53 0) x) 53 ((S.1 53 0) + 1)) 53 0 = _; rw [us_eq]) tb_708 dX10_type_49 ?_
        exact rt_i X hr hlk I rfl (by exact Or.inr (Or.inr (⟨by omega, by omega, rfl, rfl⟩))) dX10_type_52
      · skip
        refine ri_push X (v := (-3)) (by decide) dX10_type_25 ?_
        exact rt_i X hr hlk I rfl (by exact Or.inr (Or.inl ⟨by omega, by omega, rfl, rfl⟩)) dX10_type_27
    · rw [bI_f b11]
      refine rz_ne (tgt := 16) X (by omega) dX10_type_11 (by decide) (fun c14 => absurd c14 (by decide)) (fun _ => ?_)
      refine ri_const X (v := (-1)) dX10_type_14 ?_
      exact rt_i X hr hlk I rfl (by exact Or.inl ⟨by omega, rfl, rfl⟩) dX10_type_15

theorem ok_X10_untype : yX10_untype.cls ≠ "java/lang/invoke/MethodHandle" ∧ yX10_untype.cls ≠ "java/lang/invoke/VarHandle" ∧ (parseMethodDescriptor yX10_untype.desc).map (fun d => d.parameters.length) = some 0 := ⟨by decide +kernel, by decide +kernel, by decide +kernel⟩
abbrev po_X10_untype (S : St)   : Int → St → Prop := fun r S1 => (S.1 53 0 = 0 ∧ r = -2 ∧ S1 = S) ∨ (0 < S.1 53 0 ∧ r = S.1 12 (S.1 53 0 - 1) ∧ S1 = (us S.1 53 (S.1 53 0 - 1), S.2))
abbrev rm_X10_untype : Room := ({ frames := 0, cells := 0, slots := 0, locals := 0 } : Room)
set_option maxRecDepth 100000 in
set_option maxHeartbeats 4000000 in
theorem k_X10_untype (l : Launch) (G : Ge) (S : St)    (hI : MI S.1) : Ki (KM G) l yX10_untype cX10_untype 1 .int rm_X10_untype [.ref (G.2.2 0)] S (po_X10_untype S) := by
  refine K_start (own := "NameSeekerModel") (by decide +kernel) rfl (Nat.le_of_ble_eq_true rfl) ?_
  intro p e s m args below meth c X hr hlk I ls hl
  have hl : lv_has ls 1 [(0, .ref (G.2.2 0))] := hl
  obtain ⟨ht, hc, hn, hnm, hw, hwd, hkp, hcn, has, hkn⟩ := hI
  refine lv_aload_n X.1 X.2.1 dX10_untype_0 rfl (lv_at hl 0 rfl) ?_
  refine gM_model_wordSize X I (v := (S.1 53 0)) rfl tb_708 dX10_untype_1 ?_
  refine rz_ne (tgt := 10) X (by omega) dX10_untype_4 (by decide) (fun c1 => ?_) (fun c1 => ?_)
  · skip
    refine lv_aload_n X.1 X.2.1 dX10_untype_10 rfl (lv_at hl 0 rfl) ?_
    refine lv_dup X.1 X.2.1 dX10_untype_11 rfl ?_
    refine gM_model_wordSize X I (v := (S.1 53 0)) rfl tb_708 dX10_untype_12 ?_
    refine ri_const X (v := 1) dX10_untype_15 ?_
    refine ri_sub X (v := ((S.1 53 0) - 1)) rfl dX10_untype_16 ?_
    refine pM_model_wordSize X I tb_708 dX10_untype_17 (fun H locs I => ?_)
    have I : In (KM G) s s.heap H locs ((us S.1 53 ((S.1 53 0) - 1)), S.2) := I
    refine lv_aload_n X.1 X.2.1 dX10_untype_20 rfl (lv_at hl 0 rfl) ?_
    refine gM_model_wordRow X I tb_709 dX10_untype_21 ?_
    refine lv_aload_n X.1 X.2.1 dX10_untype_24 rfl (lv_at hl 0 rfl) ?_
    refine gM_model_wordSize X I (v := ((S.1 53 0) - 1)) (by show (us S.1 53 ((S.1 53 0) - 1)) 53 0 = _; rw [us_eq]) tb_708 dX10_untype_25 ?_
    refine aM_wordRow X I (v := (S.1 12 ((S.1 53 0) - 1))) (by show (us S.1 53 ((S.1 53 0) - 1)) 12 ((S.1 53 0) - 1) = _; rw [us_nc (by decide)]) (by omega) dX10_untype_28 ?_
    exact rt_i X hr hlk I rfl (by exact Or.inr (⟨by omega, rfl, rfl⟩)) dX10_untype_29
  · skip
    refine ri_push X (v := (-2)) (by decide) dX10_untype_7 ?_
    exact rt_i X hr hlk I rfl (by exact Or.inl ⟨by omega, rfl, rfl⟩) dX10_untype_9

theorem ok_X10_roll : yX10_roll.cls ≠ "java/lang/invoke/MethodHandle" ∧ yX10_roll.cls ≠ "java/lang/invoke/VarHandle" ∧ (parseMethodDescriptor yX10_roll.desc).map (fun d => d.parameters.length) = some 0 := ⟨by decide +kernel, by decide +kernel, by decide +kernel⟩
abbrev po_X10_roll (S : St)   : Int → St → Prop := fun r S1 => (S.1 53 0 = 6 ∧ r = -3 ∧ S1 = S) ∨ (S.1 53 0 < 6 ∧ r = 97 + (((7919 * (S.1 60 0)) + 12345) % 65521) % 26 ∧ S1 = (us (ua (us S.1 60 (((7919 * (S.1 60 0)) + 12345) % 65521)) 12 (S.1 53 0) (97 + (((7919 * (S.1 60 0)) + 12345) % 65521) % 26)) 53 (S.1 53 0 + 1), S.2))
abbrev rm_X10_roll : Room := ({ frames := 0, cells := 0, slots := 0, locals := 0 } : Room)
set_option maxRecDepth 100000 in
set_option maxHeartbeats 4000000 in
theorem k_X10_roll (l : Launch) (G : Ge) (S : St)    (hI : MI S.1) : Ki (KM G) l yX10_roll cX10_roll 1 .int rm_X10_roll [.ref (G.2.2 0)] S (po_X10_roll S) := by
  refine K_start (own := "NameSeekerModel") (by decide +kernel) rfl (Nat.le_of_ble_eq_true rfl) ?_
  intro p e s m args below meth c X hr hlk I ls hl
  have hl : lv_has ls 1 [(0, .ref (G.2.2 0))] := hl
  obtain ⟨ht, hc, hn, hnm, hw, hwd, hkp, hcn, has, hkn⟩ := hI
  refine lv_aload_n X.1 X.2.1 dX10_roll_0 rfl (lv_at hl 0 rfl) ?_
  refine gM_model_wordSize X I (v := (S.1 53 0)) rfl tb_708 dX10_roll_1 ?_
  refine ri_push X (v := 6) (by decide) dX10_roll_4 ?_
  refine rj_ne (tgt := 12) X (by omega) (by omega) dX10_roll_6 (by decide) (fun c1 => ?_) (fun c1 => ?_)
  · skip
    refine lv_aload_n X.1 X.2.1 dX10_roll_12 rfl (lv_at hl 0 rfl) ?_
    refine ri_spush X (v := 7919) (by decide) dX10_roll_13 ?_
    refine lv_aload_n X.1 X.2.1 dX10_roll_16 rfl (lv_at hl 0 rfl) ?_
    refine gM_model_seed X I (v := (S.1 60 0)) rfl tb_718 dX10_roll_17 ?_
    refine ri_mul X (v := (7919 * (S.1 60 0))) rfl dX10_roll_20 ?_
    refine ri_spush X (v := 12345) (by decide) dX10_roll_21 ?_
    refine ri_add X (v := ((7919 * (S.1 60 0)) + 12345)) rfl dX10_roll_24 ?_
    refine ri_ldc X (v := 65521) tb_891 rfl dX10_roll_25 ?_
    refine ri_rem X (v := (((7919 * (S.1 60 0)) + 12345) % 65521)) rfl (by omega) (by omega) dX10_roll_27 ?_
    refine pM_model_seed X I tb_718 dX10_roll_28 (fun H locs I => ?_)
    have I : In (KM G) s s.heap H locs ((us S.1 60 (((7919 * (S.1 60 0)) + 12345) % 65521)), S.2) := I
    refine lv_aload_n X.1 X.2.1 dX10_roll_31 rfl (lv_at hl 0 rfl) ?_
    refine gM_model_wordRow X I tb_709 dX10_roll_32 ?_
    refine lv_aload_n X.1 X.2.1 dX10_roll_35 rfl (lv_at hl 0 rfl) ?_
    refine gM_model_wordSize X I (v := (S.1 53 0)) (by show (us S.1 60 (((7919 * (S.1 60 0)) + 12345) % 65521)) 53 0 = _; rw [us_nc (by decide)]) tb_708 dX10_roll_36 ?_
    refine ri_push X (v := 97) (by decide) dX10_roll_39 ?_
    refine lv_aload_n X.1 X.2.1 dX10_roll_41 rfl (lv_at hl 0 rfl) ?_
    refine gM_model_seed X I (v := (((7919 * (S.1 60 0)) + 12345) % 65521)) (by show (us S.1 60 (((7919 * (S.1 60 0)) + 12345) % 65521)) 60 0 = _; rw [us_eq]) tb_718 dX10_roll_42 ?_
    refine ri_push X (v := 26) (by decide) dX10_roll_45 ?_
    refine ri_rem X (v := ((((7919 * (S.1 60 0)) + 12345) % 65521) % 26)) rfl (by omega) (by omega) dX10_roll_47 ?_
    refine ri_add X (v := (97 + ((((7919 * (S.1 60 0)) + 12345) % 65521) % 26))) rfl dX10_roll_48 ?_
    refine qM_wordRow X I (by omega) dX10_roll_49 (fun H locs I => ?_)
    have I : In (KM G) s s.heap H locs ((ua (us S.1 60 (((7919 * (S.1 60 0)) + 12345) % 65521)) 12 (S.1 53 0) (97 + ((((7919 * (S.1 60 0)) + 12345) % 65521) % 26))), S.2) := I
    refine lv_aload_n X.1 X.2.1 dX10_roll_50 rfl (lv_at hl 0 rfl) ?_
    refine lv_dup X.1 X.2.1 dX10_roll_51 rfl ?_
    refine gM_model_wordSize X I (v := (S.1 53 0)) (by show (ua (us S.1 60 (((7919 * (S.1 60 0)) + 12345) % 65521)) 12 (S.1 53 0) (97 + ((((7919 * (S.1 60 0)) + 12345) % 65521) % 26))) 53 0 = _; rw [ua_nc (by decide), us_nc (by decide)]) tb_708 dX10_roll_52 ?_
    refine ri_const X (v := 1) dX10_roll_55 ?_
    refine ri_add X (v := ((S.1 53 0) + 1)) rfl dX10_roll_56 ?_
    refine pM_model_wordSize X I tb_708 dX10_roll_57 (fun H locs I => ?_)
    have I : In (KM G) s s.heap H locs ((us (ua (us S.1 60 (((7919 * (S.1 60 0)) + 12345) % 65521)) 12 (S.1 53 0) (97 + ((((7919 * (S.1 60 0)) + 12345) % 65521) % 26))) 53 ((S.1 53 0) + 1)), S.2) := I
    refine lv_aload_n X.1 X.2.1 dX10_roll_60 rfl (lv_at hl 0 rfl) ?_
    refine gM_model_wordRow X I tb_709 dX10_roll_61 ?_
    refine lv_aload_n X.1 X.2.1 dX10_roll_64 rfl (lv_at hl 0 rfl) ?_
    refine gM_model_wordSize X I (v := ((S.1 53 0) + 1)) (by show (us (ua (us S.1 60 (((7919 * (S.1 60 0)) + 12345) % 65521)) 12 (S.1 53 0) (97 + ((((7919 * (S.1 60 0)) + 12345) % 65521) % 26))) 53 ((S.1 53 0) + 1)) 53 0 = _; rw [us_eq]) tb_708 dX10_roll_65 ?_
    refine ri_const X (v := 1) dX10_roll_68 ?_
    refine ri_sub X (v := (((S.1 53 0) + 1) - 1)) rfl dX10_roll_69 ?_
    refine aM_wordRow X I (v := ((us (ua (us S.1 60 (((7919 * (S.1 60 0)) + 12345) % 65521)) 12 (S.1 53 0) (97 + ((((7919 * (S.1 60 0)) + 12345) % 65521) % 26))) 53 ((S.1 53 0) + 1)) 12 (((S.1 53 0) + 1) - 1))) rfl (by omega) dX10_roll_70 ?_
    exact rt_i X hr hlk I rfl (by exact Or.inr (⟨by omega, by rw [us_nc (by decide), show S.1 53 0 + 1 - 1 = S.1 53 0 by omega, ua_eq], rfl⟩)) dX10_roll_71
  · skip
    refine ri_push X (v := (-3)) (by decide) dX10_roll_9 ?_
    exact rt_i X hr hlk I rfl (by exact Or.inl ⟨by omega, rfl, rfl⟩) dX10_roll_11

theorem ok_X10_word : yX10_word.cls ≠ "java/lang/invoke/MethodHandle" ∧ yX10_word.cls ≠ "java/lang/invoke/VarHandle" ∧ (parseMethodDescriptor yX10_word.desc).map (fun d => d.parameters.length) = some 1 := ⟨by decide +kernel, by decide +kernel, by decide +kernel⟩
abbrev po_X10_word (S : St)  (x : Int) : Int → St → Prop := fun r S1 => r = (if x < -1 then -1 else if x = -1 then S.1 53 0 else if x < S.1 53 0 then S.1 12 x else -4) ∧ S1 = S
abbrev rm_X10_word : Room := ({ frames := 0, cells := 0, slots := 0, locals := 0 } : Room)
set_option maxRecDepth 100000 in
set_option maxHeartbeats 4000000 in
theorem k_X10_word (l : Launch) (G : Ge) (S : St)  (x : Int)  (hx : -2147483648 ≤ x ∧ x < 2147483648) (hI : MI S.1) : Ki (KM G) l yX10_word cX10_word 2 .int rm_X10_word [.ref (G.2.2 0), .int (iI x)] S (po_X10_word S x) := by
  refine K_start (own := "NameSeekerModel") (by decide +kernel) rfl (Nat.le_of_ble_eq_true rfl) ?_
  intro p e s m args below meth c X hr hlk I ls hl
  have hl : lv_has ls 2 [(0, .ref (G.2.2 0)), (1, .int (iI x))] := hl
  obtain ⟨ht, hc, hn, hnm, hw, hwd, hkp, hcn, has, hkn⟩ := hI
  refine lv_iload_n X.1 X.2.1 dX10_word_0 rfl (lv_at hl 1 rfl) ?_
  refine ri_const X (v := (-1)) dX10_word_1 ?_
  refine rj_ge (tgt := 7) X (by omega) (by omega) dX10_word_2 (by decide) (fun c1 => ?_) (fun c1 => ?_)
  · skip
    refine lv_iload_n X.1 X.2.1 dX10_word_7 rfl (lv_at hl 1 rfl) ?_
    refine ri_const X (v := (-1)) dX10_word_8 ?_
    refine rj_ne (tgt := 17) X (by omega) (by omega) dX10_word_9 (by decide) (fun c2 => ?_) (fun c2 => ?_)
    · skip
      refine lv_iload_n X.1 X.2.1 dX10_word_17 rfl (lv_at hl 1 rfl) ?_
      refine lv_aload_n X.1 X.2.1 dX10_word_18 rfl (lv_at hl 0 rfl) ?_
      refine gM_model_wordSize X I (v := (S.1 53 0)) rfl tb_708 dX10_word_19 ?_
      refine rj_ge (tgt := 34) X (by omega) (by omega) dX10_word_22 (by decide) (fun c3 => ?_) (fun c3 => ?_)
      · skip
        refine ri_push X (v := (-4)) (by decide) dX10_word_34 ?_
        exact rt_i X hr hlk I rfl (by first | (refine ⟨?_, rfl⟩; (first | rw [if_pos (by omega)] | rw [if_neg (by omega), if_pos (by omega)] | rw [if_neg (by omega), if_neg (by omega), if_pos (by omega)] | rw [if_neg (by omega), if_neg (by omega), if_neg (by omega)]); done) | (exfalso; omega)) dX10_word_36
      · skip
        refine lv_aload_n X.1 X.2.1 dX10_word_25 rfl (lv_at hl 0 rfl) ?_
        refine gM_model_wordRow X I tb_709 dX10_word_26 ?_
        refine lv_iload_n X.1 X.2.1 dX10_word_29 rfl (lv_at hl 1 rfl) ?_
        refine aM_wordRow X I (v := (S.1 12 x)) rfl (by omega) dX10_word_30 ?_
        refine lv_goto (tgt := 36) X.1 X.2.1 dX10_word_31 (by decide) ?_
        exact rt_i X hr hlk I rfl (by first | (refine ⟨?_, rfl⟩; (first | rw [if_pos (by omega)] | rw [if_neg (by omega), if_pos (by omega)] | rw [if_neg (by omega), if_neg (by omega), if_pos (by omega)] | rw [if_neg (by omega), if_neg (by omega), if_neg (by omega)]); done) | (exfalso; omega)) dX10_word_36
    · skip
      refine lv_aload_n X.1 X.2.1 dX10_word_12 rfl (lv_at hl 0 rfl) ?_
      refine gM_model_wordSize X I (v := (S.1 53 0)) rfl tb_708 dX10_word_13 ?_
      exact rt_i X hr hlk I rfl (by first | (refine ⟨?_, rfl⟩; (first | rw [if_pos (by omega)] | rw [if_neg (by omega), if_pos (by omega)] | rw [if_neg (by omega), if_neg (by omega), if_pos (by omega)] | rw [if_neg (by omega), if_neg (by omega), if_neg (by omega)]); done) | (exfalso; omega)) dX10_word_16
  · skip
    refine ri_const X (v := (-1)) dX10_word_5 ?_
    exact rt_i X hr hlk I rfl (by first | (refine ⟨?_, rfl⟩; (first | rw [if_pos (by omega)] | rw [if_neg (by omega), if_pos (by omega)] | rw [if_neg (by omega), if_neg (by omega), if_pos (by omega)] | rw [if_neg (by omega), if_neg (by omega), if_neg (by omega)]); done) | (exfalso; omega)) dX10_word_6

theorem ok_X10_code : yX10_code.cls ≠ "java/lang/invoke/MethodHandle" ∧ yX10_code.cls ≠ "java/lang/invoke/VarHandle" ∧ (parseMethodDescriptor yX10_code.desc).map (fun d => d.parameters.length) = some 0 := ⟨by decide +kernel, by decide +kernel, by decide +kernel⟩
abbrev po_X10_code (S : St)  (m_ : Int) (f : Int → Int) : Int → St → Prop := fun r S1 => r = cdv f m_.toNat ∧ S1 = S
abbrev rm_X10_code : Room := ({ frames := 1, cells := 0, slots := 0, locals := 20 } : Room)
set_option maxRecDepth 100000 in
set_option maxHeartbeats 4000000 in
theorem k_X10_code (l : Launch) (G : Ge) (S : St)  (m_ : Int) (f : Int → Int) (e_m_ : S.1 53 0 = m_) (e_f : ∀ i : Int, S.1 12 i = f i) (hz : 0 ≤ m_ ∧ m_ ≤ 6) (hL : ∀ i : Int, 0 ≤ i → i < m_ → ((97 ≤ f i ∧ f i ≤ 122) ∨ (65 ≤ f i ∧ f i ≤ 90))) : Kl (KM G) l yX10_code cX10_code 5 rm_X10_code [.ref (G.2.2 0)] S (po_X10_code S m_ f) := by
  refine K_start (own := "NameSeekerModel") (by decide +kernel) rfl (Nat.le_of_ble_eq_true rfl) ?_
  intro p e s m args below meth c X hr hlk I ls hl
  have hl : lv_has ls 5 [(0, .ref (G.2.2 0))] := hl
  refine lv_lconst (v := lI 0) X.1 X.2.1 dX10_code_0 rfl ?_
  refine lv_lstore_n (lv' := [(1, .long (lI 0)), (0, .ref (G.2.2 0))]) X.1 X.2.1 dX10_code_1 rfl hl (by decide) rfl (fun ls hl => ?_)
  refine ri_const X (v := 0) dX10_code_2 ?_
  refine lv_istore_n (lv' := [(3, .int (iI 0)), (1, .long (lI 0)), (0, .ref (G.2.2 0))]) X.1 X.2.1 dX10_code_3 rfl hl (by decide) rfl (fun ls hl => ?_)
  have lp_4 : ∀ (fu_ : Nat) (i : Int), (6 - i).toNat < fu_ → ∀ (hi : 0 ≤ i ∧ i ≤ m_) (H : Heap) (locs : List Loc), In (KM G) s s.heap H locs S → ∀ ls : Array Slot, lv_has ls 5 [(0, .ref (G.2.2 0)), (1, .long (lI (cdv f i.toNat))), (3, .int (iI i))] → W p l e rm_X10_code s m args below meth c H locs 0 0 (MQ below (QL (KM G) (po_X10_code S m_ f)) args s 0 0 (KM G).2.2.2) (F0 m 4 ls []) := by
    intro fu_
    induction fu_ with
    | zero => intro i hm; exact absurd hm (by omega)
    | succ fu_ ih_4 =>
      intro i hm_4 hi H locs I ls hl
      refine lv_iload_n X.1 X.2.1 dX10_code_4 rfl (lv_at hl 2 rfl) ?_
      refine lv_aload_n X.1 X.2.1 dX10_code_5 rfl (lv_at hl 0 rfl) ?_
      refine gM_model_wordSize X I (v := m_) e_m_ tb_708 dX10_code_6 ?_
      refine rj_ge (tgt := 60) X (by omega) (by omega) dX10_code_9 (by decide) (fun c1 => ?_) (fun c1 => ?_)
      · skip
        have e_i : i = m_ := by omega
        refine lv_lload_n X.1 X.2.1 dX10_code_60 rfl (lv_at hl 1 rfl) ?_
        exact rt_l X hr hlk I (by first | (refine ⟨?_, rfl⟩; (rw [e_i]); done) | (exfalso; omega)) dX10_code_61
      · skip
        have hLi := hL i (by omega) (by omega)
        refine lv_aload_n X.1 X.2.1 dX10_code_12 rfl (lv_at hl 0 rfl) ?_
        refine gM_model_wordRow X I tb_709 dX10_code_13 ?_
        refine lv_iload_n X.1 X.2.1 dX10_code_16 rfl (lv_at hl 2 rfl) ?_
        refine aM_wordRow X I (v := (f i)) (e_f i) (by omega) dX10_code_17 ?_
        refine lv_istore (lv' := [(4, .int (iI (f i))), (0, .ref (G.2.2 0)), (1, .long (lI (cdv f i.toNat))), (3, .int (iI i))]) X.1 X.2.1 dX10_code_18 hl (by decide) rfl (fun ls hl => ?_)
        refine ri_ldc2 X (v := 53) tb_928 rfl dX10_code_20 ?_
        refine lv_lload_n X.1 X.2.1 dX10_code_23 rfl (lv_at hl 2 rfl) ?_
        refine ri_lmul X (v := (53 * (cdv f i.toNat))) rfl dX10_code_24 ?_
        refine lv_iload X.1 X.2.1 dX10_code_25 (lv_at hl 0 rfl) ?_
        refine cl_i I (runS (As := [.int (iI (f i))]) (rest := [.long (lI (53 * (cdv f i.toNat)))]) X (k_X10_isSmall l G S  (f i)  (by omega)) (gdC tb_851 gdB) tb_849 tb_850 tb_48 ⟨ok_X10_isSmall, ⟨Nat.le_of_ble_eq_true rfl, Nat.le_of_ble_eq_true rfl⟩, rfl, rfl⟩ (PreS.of I) rfl hl.1 rfl (Nat.le_of_ble_eq_true rfl) dX10_code_27 ⟨Nat.zero_le _, Nat.zero_le _⟩) (fun r2 S3 H locs q4 I => ?_)
        obtain ⟨e1_, e2_⟩ := q4
        rw [e2_] at I
        rw [e1_]
        clear e1_ e2_
        rcases Decidable.em ((97 ≤ ((f i)) ∧ ((f i)) ≤ 122)) with b5 | b5
        · rw [bI_t b5]
          refine rz_eq (tgt := 43) X (by omega) dX10_code_30 (by decide) (fun c6 => absurd c6 (by decide)) (fun _ => ?_)
          refine lv_iload X.1 X.2.1 dX10_code_33 (lv_at hl 0 rfl) ?_
          refine ri_push X (v := 97) (by decide) dX10_code_35 ?_
          refine ri_sub X (v := ((f i) - 97)) rfl dX10_code_37 ?_
          refine ri_const X (v := 1) dX10_code_38 ?_
          refine ri_add X (v := (((f i) - 97) + 1)) rfl dX10_code_39 ?_
          refine lv_goto (tgt := 51) X.1 X.2.1 dX10_code_40 (by decide) ?_
          refine ri_i2l X (by omega) dX10_code_51 ?_
          refine ri_ladd X (v := ((53 * (cdv f i.toNat)) + (((f i) - 97) + 1))) rfl dX10_code_52 ?_
          refine lv_lstore_n (lv' := [(1, .long (lI ((53 * (cdv f i.toNat)) + (((f i) - 97) + 1)))), (4, .int (iI (f i))), (0, .ref (G.2.2 0)), (3, .int (iI i))]) X.1 X.2.1 dX10_code_53 rfl hl (by decide) rfl (fun ls hl => ?_)
          refine ri_iinc X (k := 3) (v := (i + 1)) (lv' := [(3, .int (iI (i + 1))), (1, .long (lI ((53 * (cdv f i.toNat)) + (((f i) - 97) + 1)))), (4, .int (iI (f i))), (0, .ref (G.2.2 0))]) rfl dX10_code_54 hl rfl (by decide) rfl (fun ls hl => ?_)
          refine lv_goto (tgt := 4) X.1 X.2.1 dX10_code_57 (by decide) ?_
          have hl : lv_has ls 5 [(3, .int (iI (i + 1))), (1, .long (lI (cdv f (i + 1).toNat))), (4, .int (iI (f i))), (0, .ref (G.2.2 0))] := by
            have e_ : ((53 * (cdv f i.toNat)) + (((f i) - 97) + 1)) = (cdv f (i + 1).toNat) := by first | exact cdm_s (by omega) (Or.inl ⟨by assumption, by omega⟩) | exact cdm_s (by omega) (Or.inr ⟨by assumption, by omega⟩)
            rw [← e_]; exact hl
          exact ih_4 (i + 1) (by omega) (by omega) _ _ I ls (lv_sub hl [3, 1, 0] rfl)
        · rw [bI_f b5]
          refine rz_eq (tgt := 43) X (by omega) dX10_code_30 (by decide) (fun _ => ?_) (fun c7 => absurd c7 (fun q => q (by decide)))
          refine lv_iload X.1 X.2.1 dX10_code_43 (lv_at hl 0 rfl) ?_
          refine ri_push X (v := 65) (by decide) dX10_code_45 ?_
          refine ri_sub X (v := ((f i) - 65)) rfl dX10_code_47 ?_
          refine ri_push X (v := 27) (by decide) dX10_code_48 ?_
          refine ri_add X (v := (((f i) - 65) + 27)) rfl dX10_code_50 ?_
          refine ri_i2l X (by omega) dX10_code_51 ?_
          refine ri_ladd X (v := ((53 * (cdv f i.toNat)) + (((f i) - 65) + 27))) rfl dX10_code_52 ?_
          refine lv_lstore_n (lv' := [(1, .long (lI ((53 * (cdv f i.toNat)) + (((f i) - 65) + 27)))), (4, .int (iI (f i))), (0, .ref (G.2.2 0)), (3, .int (iI i))]) X.1 X.2.1 dX10_code_53 rfl hl (by decide) rfl (fun ls hl => ?_)
          refine ri_iinc X (k := 3) (v := (i + 1)) (lv' := [(3, .int (iI (i + 1))), (1, .long (lI ((53 * (cdv f i.toNat)) + (((f i) - 65) + 27)))), (4, .int (iI (f i))), (0, .ref (G.2.2 0))]) rfl dX10_code_54 hl rfl (by decide) rfl (fun ls hl => ?_)
          refine lv_goto (tgt := 4) X.1 X.2.1 dX10_code_57 (by decide) ?_
          have hl : lv_has ls 5 [(3, .int (iI (i + 1))), (1, .long (lI (cdv f (i + 1).toNat))), (4, .int (iI (f i))), (0, .ref (G.2.2 0))] := by
            have e_ : ((53 * (cdv f i.toNat)) + (((f i) - 65) + 27)) = (cdv f (i + 1).toNat) := by first | exact cdm_s (by omega) (Or.inl ⟨by assumption, by omega⟩) | exact cdm_s (by omega) (Or.inr ⟨by assumption, by omega⟩)
            rw [← e_]; exact hl
          exact ih_4 (i + 1) (by omega) (by omega) _ _ I ls (lv_sub hl [3, 1, 0] rfl)
  have hl : lv_has ls 5 [(3, .int (iI 0)), (1, .long (lI (cdv f (0 : Int).toNat))), (0, .ref (G.2.2 0))] := by
    have e_ : 0 = (cdv f (0 : Int).toNat) := rfl
    rw [← e_]; exact hl
  exact lp_4 (7) 0 (by omega) (by omega) _ _ I ls (lv_sub hl [2, 1, 0] rfl)

theorem ok_X10_pick : yX10_pick.cls ≠ "java/lang/invoke/MethodHandle" ∧ yX10_pick.cls ≠ "java/lang/invoke/VarHandle" ∧ (parseMethodDescriptor yX10_pick.desc).map (fun d => d.parameters.length) = some 1 := ⟨by decide +kernel, by decide +kernel, by decide +kernel⟩
abbrev po_X10_pick (S : St)  (x : Int) : Int → St → Prop := fun r S1 => (¬ (0 ≤ x ∧ x < S.1 51 0) ∧ r = -1 ∧ S1 = S) ∨ ((0 ≤ x ∧ x < S.1 51 0) ∧ r = S.1 56 0 + 1 ∧ S1 = (ua (us S.1 56 (S.1 56 0 + 1)) 6 x (S.1 56 0 + 1), S.2))
abbrev rm_X10_pick : Room := ({ frames := 1, cells := 0, slots := 0, locals := 21 } : Room)
set_option maxRecDepth 100000 in
set_option maxHeartbeats 4000000 in
theorem k_X10_pick (l : Launch) (G : Ge) (S : St)  (x : Int)  (hx : -2147483648 ≤ x ∧ x < 2147483648) (hI : MI S.1) : Ki (KM G) l yX10_pick cX10_pick 2 .int rm_X10_pick [.ref (G.2.2 0), .int (iI x)] S (po_X10_pick S x) := by
  refine K_start (own := "NameSeekerModel") (by decide +kernel) rfl (Nat.le_of_ble_eq_true rfl) ?_
  intro p e s m args below meth c X hr hlk I ls hl
  have hl : lv_has ls 2 [(0, .ref (G.2.2 0)), (1, .int (iI x))] := hl
  obtain ⟨ht, hc, hn, hnm, hw, hwd, hkp, hcn, has, hkn⟩ := hI
  refine lv_aload_n X.1 X.2.1 dX10_pick_0 rfl (lv_at hl 0 rfl) ?_
  refine lv_iload_n X.1 X.2.1 dX10_pick_1 rfl (lv_at hl 1 rfl) ?_
  refine cl_i I (runV (As := [.int (iI x)]) (rest := []) X (k_X10_isName l G S  x (S.1 51 0) rfl (by omega) (by omega)) (gdC tb_867 (gdC tb_869 (gdC tb_18 (gdC tb_48 (gdC tb_870 gdB))))) ⟨ok_X10_isName, ⟨Nat.le_of_ble_eq_true rfl, Nat.le_of_ble_eq_true rfl⟩, rfl, rfl⟩ (PreV.of (C := RX10) (T := TX10) (N := 41) I (atM_model) rfl) rfl hl.1 rfl (Nat.le_of_ble_eq_true rfl) dX10_pick_2 ⟨Nat.zero_le _, Nat.zero_le _⟩) (fun r1 S2 H locs q3 I => ?_)
  obtain ⟨e1_, e2_⟩ := q3
  rw [e2_] at I
  rw [e1_]
  clear e1_ e2_
  rcases Decidable.em ((0 ≤ x ∧ x < (S.1 51 0))) with b4 | b4
  · rw [bI_t b4]
    refine rz_ne (tgt := 10) X (by omega) dX10_pick_5 (by decide) (fun _ => ?_) (fun c5 => absurd c5 (by decide))
    refine lv_aload_n X.1 X.2.1 dX10_pick_10 rfl (lv_at hl 0 rfl) ?_
    refine lv_dup X.1 X.2.1 dX10_pick_11 rfl ?_
    refine gM_model_tick X I (v := (S.1 56 0)) rfl tb_714 dX10_pick_12 ?_
    refine ri_const X (v := 1) dX10_pick_15 ?_
    refine ri_add X (v := ((S.1 56 0) + 1)) rfl dX10_pick_16 ?_
    refine pM_model_tick X I tb_714 dX10_pick_17 (fun H locs I => ?_)
    have I : In (KM G) s s.heap H locs ((us S.1 56 ((S.1 56 0) + 1)), S.2) := I
    refine lv_aload_n X.1 X.2.1 dX10_pick_20 rfl (lv_at hl 0 rfl) ?_
    refine gM_model_picks X I tb_701 dX10_pick_21 ?_
    refine lv_iload_n X.1 X.2.1 dX10_pick_24 rfl (lv_at hl 1 rfl) ?_
    refine lv_aload_n X.1 X.2.1 dX10_pick_25 rfl (lv_at hl 0 rfl) ?_
    refine gM_model_tick X I (v := ((S.1 56 0) + 1)) (by show (us S.1 56 ((S.1 56 0) + 1)) 56 0 = _; rw [us_eq]) tb_714 dX10_pick_26 ?_
    refine qM_picks X I (by omega) dX10_pick_29 (fun H locs I => ?_)
    have I : In (KM G) s s.heap H locs ((ua (us S.1 56 ((S.1 56 0) + 1)) 6 x ((S.1 56 0) + 1)), S.2) := I
    refine lv_aload_n X.1 X.2.1 dX10_pick_30 rfl (lv_at hl 0 rfl) ?_
    refine gM_model_tick X I (v := ((S.1 56 0) + 1)) (by show (ua (us S.1 56 ((S.1 56 0) + 1)) 6 x ((S.1 56 0) + 1)) 56 0 = _; rw [ua_nc (by decide), us_eq]) tb_714 dX10_pick_31 ?_
    exact rt_i X hr hlk I rfl (by exact Or.inr (⟨by omega, rfl, rfl⟩)) dX10_pick_34
  · rw [bI_f b4]
    refine rz_ne (tgt := 10) X (by omega) dX10_pick_5 (by decide) (fun c6 => absurd c6 (by decide)) (fun _ => ?_)
    refine ri_const X (v := (-1)) dX10_pick_8 ?_
    exact rt_i X hr hlk I rfl (by exact Or.inl ⟨by omega, rfl, rfl⟩) dX10_pick_9

theorem ok_X10_forget : yX10_forget.cls ≠ "java/lang/invoke/MethodHandle" ∧ yX10_forget.cls ≠ "java/lang/invoke/VarHandle" ∧ (parseMethodDescriptor yX10_forget.desc).map (fun d => d.parameters.length) = some 1 := ⟨by decide +kernel, by decide +kernel, by decide +kernel⟩
abbrev po_X10_forget (S : St)  (x : Int) : Int → St → Prop := fun r S1 => (¬ (0 ≤ x ∧ x < S.1 51 0) ∧ r = -1 ∧ S1 = S) ∨ ((0 ≤ x ∧ x < S.1 51 0) ∧ S.1 6 x = 0 ∧ r = -2 ∧ S1 = S) ∨ ((0 ≤ x ∧ x < S.1 51 0) ∧ ¬ S.1 6 x = 0 ∧ r = S.1 6 x ∧ S1 = (ua S.1 6 x 0, S.2))
abbrev rm_X10_forget : Room := ({ frames := 1, cells := 0, slots := 0, locals := 21 } : Room)
set_option maxRecDepth 100000 in
set_option maxHeartbeats 4000000 in
theorem k_X10_forget (l : Launch) (G : Ge) (S : St)  (x : Int)  (hx : -2147483648 ≤ x ∧ x < 2147483648) (hI : MI S.1) : Ki (KM G) l yX10_forget cX10_forget 3 .int rm_X10_forget [.ref (G.2.2 0), .int (iI x)] S (po_X10_forget S x) := by
  refine K_start (own := "NameSeekerModel") (by decide +kernel) rfl (Nat.le_of_ble_eq_true rfl) ?_
  intro p e s m args below meth c X hr hlk I ls hl
  have hl : lv_has ls 3 [(0, .ref (G.2.2 0)), (1, .int (iI x))] := hl
  obtain ⟨ht, hc, hn, hnm, hw, hwd, hkp, hcn, has, hkn⟩ := hI
  refine lv_aload_n X.1 X.2.1 dX10_forget_0 rfl (lv_at hl 0 rfl) ?_
  refine lv_iload_n X.1 X.2.1 dX10_forget_1 rfl (lv_at hl 1 rfl) ?_
  refine cl_i I (runV (As := [.int (iI x)]) (rest := []) X (k_X10_isName l G S  x (S.1 51 0) rfl (by omega) (by omega)) (gdC tb_867 (gdC tb_869 (gdC tb_18 (gdC tb_48 (gdC tb_870 gdB))))) ⟨ok_X10_isName, ⟨Nat.le_of_ble_eq_true rfl, Nat.le_of_ble_eq_true rfl⟩, rfl, rfl⟩ (PreV.of (C := RX10) (T := TX10) (N := 41) I (atM_model) rfl) rfl hl.1 rfl (Nat.le_of_ble_eq_true rfl) dX10_forget_2 ⟨Nat.zero_le _, Nat.zero_le _⟩) (fun r1 S2 H locs q3 I => ?_)
  obtain ⟨e1_, e2_⟩ := q3
  rw [e2_] at I
  rw [e1_]
  clear e1_ e2_
  rcases Decidable.em ((0 ≤ x ∧ x < (S.1 51 0))) with b4 | b4
  · rw [bI_t b4]
    refine rz_ne (tgt := 10) X (by omega) dX10_forget_5 (by decide) (fun _ => ?_) (fun c5 => absurd c5 (by decide))
    have hnx := hnm x (by omega) (by omega)
    obtain ⟨hn1, hn2, hn3, hn4, hn5⟩ := hnx
    refine lv_aload_n X.1 X.2.1 dX10_forget_10 rfl (lv_at hl 0 rfl) ?_
    refine gM_model_picks X I tb_701 dX10_forget_11 ?_
    refine lv_iload_n X.1 X.2.1 dX10_forget_14 rfl (lv_at hl 1 rfl) ?_
    refine aM_picks X I (v := (S.1 6 x)) rfl (by omega) dX10_forget_15 ?_
    refine rz_ne (tgt := 22) X (by omega) dX10_forget_16 (by decide) (fun c6 => ?_) (fun c6 => ?_)
    · skip
      refine lv_aload_n X.1 X.2.1 dX10_forget_22 rfl (lv_at hl 0 rfl) ?_
      refine gM_model_picks X I tb_701 dX10_forget_23 ?_
      refine lv_iload_n X.1 X.2.1 dX10_forget_26 rfl (lv_at hl 1 rfl) ?_
      refine aM_picks X I (v := (S.1 6 x)) rfl (by omega) dX10_forget_27 ?_
      refine lv_istore_n (lv' := [(2, .int (iI (S.1 6 x))), (0, .ref (G.2.2 0)), (1, .int (iI x))]) X.1 X.2.1 dX10_forget_28 rfl hl (by decide) rfl (fun ls hl => ?_)
      refine lv_aload_n X.1 X.2.1 dX10_forget_29 rfl (lv_at hl 1 rfl) ?_
      refine gM_model_picks X I tb_701 dX10_forget_30 ?_
      refine lv_iload_n X.1 X.2.1 dX10_forget_33 rfl (lv_at hl 2 rfl) ?_
      refine ri_const X (v := 0) dX10_forget_34 ?_
      refine qM_picks X I (by omega) dX10_forget_35 (fun H locs I => ?_)
      have I : In (KM G) s s.heap H locs ((ua S.1 6 x 0), S.2) := I
      refine lv_iload_n X.1 X.2.1 dX10_forget_36 rfl (lv_at hl 0 rfl) ?_
      exact rt_i X hr hlk I rfl (by exact Or.inr (Or.inr (⟨by omega, by omega, rfl, rfl⟩))) dX10_forget_37
    · skip
      refine ri_push X (v := (-2)) (by decide) dX10_forget_19 ?_
      exact rt_i X hr hlk I rfl (by exact Or.inr (Or.inl ⟨by omega, by omega, rfl, rfl⟩)) dX10_forget_21
  · rw [bI_f b4]
    refine rz_ne (tgt := 10) X (by omega) dX10_forget_5 (by decide) (fun c7 => absurd c7 (by decide)) (fun _ => ?_)
    refine ri_const X (v := (-1)) dX10_forget_8 ?_
    exact rt_i X hr hlk I rfl (by exact Or.inl ⟨by omega, rfl, rfl⟩) dX10_forget_9

theorem ok_X10_drop : yX10_drop.cls ≠ "java/lang/invoke/MethodHandle" ∧ yX10_drop.cls ≠ "java/lang/invoke/VarHandle" ∧ (parseMethodDescriptor yX10_drop.desc).map (fun d => d.parameters.length) = some 1 := ⟨by decide +kernel, by decide +kernel, by decide +kernel⟩
abbrev po_X10_drop (S : St)  (x : Int) : Int → St → Prop := fun r S1 => (¬ (0 ≤ x ∧ x < S.1 51 0) ∧ r = -1 ∧ S1 = S) ∨ ((0 ≤ x ∧ x < S.1 51 0) ∧ S.1 51 0 = 1 ∧ r = -2 ∧ S1 = S) ∨ ((0 ≤ x ∧ x < S.1 51 0) ∧ ¬ S.1 51 0 = 1 ∧ r = S.1 51 0 - 1 ∧ S1.2 = S.2 ∧ S1.1 51 0 = S.1 51 0 - 1 ∧ drI S.1 S1.1 x (S.1 51 0 - 1))
abbrev rm_X10_drop : Room := ({ frames := 1, cells := 0, slots := 0, locals := 21 } : Room)
set_option maxRecDepth 100000 in
set_option maxHeartbeats 4000000 in
theorem k_X10_drop (l : Launch) (G : Ge) (S : St)  (x : Int)  (hx : -2147483648 ≤ x ∧ x < 2147483648) (hI : MI S.1) : Ki (KM G) l yX10_drop cX10_drop 4 .int rm_X10_drop [.ref (G.2.2 0), .int (iI x)] S (po_X10_drop S x) := by
  refine K_start (own := "NameSeekerModel") (by decide +kernel) rfl (Nat.le_of_ble_eq_true rfl) ?_
  intro p e s m args below meth c X hr hlk I ls hl
  have hl : lv_has ls 4 [(0, .ref (G.2.2 0)), (1, .int (iI x))] := hl
  obtain ⟨ht, hc, hn, hnm, hw, hwd, hkp, hcn, has, hkn⟩ := hI
  refine lv_aload_n X.1 X.2.1 dX10_drop_0 rfl (lv_at hl 0 rfl) ?_
  refine lv_iload_n X.1 X.2.1 dX10_drop_1 rfl (lv_at hl 1 rfl) ?_
  refine cl_i I (runV (As := [.int (iI x)]) (rest := []) X (k_X10_isName l G S  x (S.1 51 0) rfl (by omega) (by omega)) (gdC tb_867 (gdC tb_869 (gdC tb_18 (gdC tb_48 (gdC tb_870 gdB))))) ⟨ok_X10_isName, ⟨Nat.le_of_ble_eq_true rfl, Nat.le_of_ble_eq_true rfl⟩, rfl, rfl⟩ (PreV.of (C := RX10) (T := TX10) (N := 41) I (atM_model) rfl) rfl hl.1 rfl (Nat.le_of_ble_eq_true rfl) dX10_drop_2 ⟨Nat.zero_le _, Nat.zero_le _⟩) (fun r1 S2 H locs q3 I => ?_)
  obtain ⟨e1_, e2_⟩ := q3
  rw [e2_] at I
  rw [e1_]
  clear e1_ e2_
  rcases Decidable.em ((0 ≤ x ∧ x < (S.1 51 0))) with b4 | b4
  · rw [bI_t b4]
    refine rz_ne (tgt := 10) X (by omega) dX10_drop_5 (by decide) (fun _ => ?_) (fun c5 => absurd c5 (by decide))
    refine lv_aload_n X.1 X.2.1 dX10_drop_10 rfl (lv_at hl 0 rfl) ?_
    refine gM_model_names X I (v := (S.1 51 0)) rfl tb_696 dX10_drop_11 ?_
    refine ri_const X (v := 1) dX10_drop_14 ?_
    refine rj_ne (tgt := 21) X (by omega) (by omega) dX10_drop_15 (by decide) (fun c6 => ?_) (fun c6 => ?_)
    · skip
      refine lv_aload_n X.1 X.2.1 dX10_drop_21 rfl (lv_at hl 0 rfl) ?_
      refine lv_dup X.1 X.2.1 dX10_drop_22 rfl ?_
      refine gM_model_names X I (v := (S.1 51 0)) rfl tb_696 dX10_drop_23 ?_
      refine ri_const X (v := 1) dX10_drop_26 ?_
      refine ri_sub X (v := ((S.1 51 0) - 1)) rfl dX10_drop_27 ?_
      refine pM_model_names X I tb_696 dX10_drop_28 (fun H locs I => ?_)
      have I : In (KM G) s s.heap H locs ((us S.1 51 ((S.1 51 0) - 1)), S.2) := I
      refine lv_iload_n X.1 X.2.1 dX10_drop_31 rfl (lv_at hl 1 rfl) ?_
      refine lv_istore_n (lv' := [(2, .int (iI x)), (0, .ref (G.2.2 0)), (1, .int (iI x))]) X.1 X.2.1 dX10_drop_32 rfl hl (by decide) rfl (fun ls hl => ?_)
      have lp_33 : ∀ (fu_ : Nat) (y : Int) (U : Nat → Int → Int), (8 - y).toNat < fu_ → ∀ (hy : x ≤ y ∧ y ≤ S.1 51 0 - 1) (hU51 : U 51 0 = S.1 51 0 - 1) (hdr : drI S.1 U x y) (H : Heap) (locs : List Loc), In (KM G) s s.heap H locs (U, S.2) → ∀ ls : Array Slot, lv_has ls 4 [(0, .ref (G.2.2 0)), (1, .int (iI x)), (2, .int (iI y))] → W p l e rm_X10_drop s m args below meth c H locs 0 0 (MQ below (QI (KM G) (po_X10_drop S x)) args s 0 0 (KM G).2.2.2) (F0 m 33 ls []) := by
        intro fu_
        induction fu_ with
        | zero => intro y U hm; exact absurd hm (by omega)
        | succ fu_ ih_33 =>
          intro y U hm_33 hy hU51 hdr H locs I ls hl
          refine lv_iload_n X.1 X.2.1 dX10_drop_33 rfl (lv_at hl 2 rfl) ?_
          refine lv_aload_n X.1 X.2.1 dX10_drop_34 rfl (lv_at hl 0 rfl) ?_
          refine gM_model_names X I (v := (S.1 51 0 - 1)) hU51 tb_696 dX10_drop_35 ?_
          refine rj_ge (tgt := 146) X (by omega) (by omega) dX10_drop_38 (by decide) (fun c7 => ?_) (fun c7 => ?_)
          · skip
            refine lv_aload_n X.1 X.2.1 dX10_drop_146 rfl (lv_at hl 0 rfl) ?_
            refine gM_model_names X I (v := (S.1 51 0 - 1)) hU51 tb_696 dX10_drop_147 ?_
            exact rt_i X hr hlk I rfl (by exact Or.inr (Or.inr (⟨by omega, by omega, rfl, rfl, hU51, by rw [show S.1 51 0 - 1 = y by omega]; exact hdr⟩))) dX10_drop_150
          · skip
            have hn1y := (hnm (y + 1) (by omega) (by omega))
            obtain ⟨hn1, hn2, hn3, hn4, hn5⟩ := hn1y
            have hfy := hdr.2.1 (y + 1) (by omega)
            rw [← hfy.1] at hn1
            refine lv_aload_n X.1 X.2.1 dX10_drop_41 rfl (lv_at hl 0 rfl) ?_
            refine gM_model_sizes X I tb_698 dX10_drop_42 ?_
            refine lv_iload_n X.1 X.2.1 dX10_drop_45 rfl (lv_at hl 2 rfl) ?_
            refine lv_aload_n X.1 X.2.1 dX10_drop_46 rfl (lv_at hl 0 rfl) ?_
            refine gM_model_sizes X I tb_698 dX10_drop_47 ?_
            refine lv_iload_n X.1 X.2.1 dX10_drop_50 rfl (lv_at hl 2 rfl) ?_
            refine ri_const X (v := 1) dX10_drop_51 ?_
            refine ri_add X (v := (y + 1)) rfl dX10_drop_52 ?_
            refine aM_sizes X I (v := (U 3 (y + 1))) rfl (by omega) dX10_drop_53 ?_
            refine qM_sizes X I (by omega) dX10_drop_54 (fun H locs I => ?_)
            have I : In (KM G) s s.heap H locs ((ua U 3 y (U 3 (y + 1))), S.2) := I
            refine lv_aload_n X.1 X.2.1 dX10_drop_55 rfl (lv_at hl 0 rfl) ?_
            refine gM_model_kinds X I tb_699 dX10_drop_56 ?_
            refine lv_iload_n X.1 X.2.1 dX10_drop_59 rfl (lv_at hl 2 rfl) ?_
            refine lv_aload_n X.1 X.2.1 dX10_drop_60 rfl (lv_at hl 0 rfl) ?_
            refine gM_model_kinds X I tb_699 dX10_drop_61 ?_
            refine lv_iload_n X.1 X.2.1 dX10_drop_64 rfl (lv_at hl 2 rfl) ?_
            refine ri_const X (v := 1) dX10_drop_65 ?_
            refine ri_add X (v := (y + 1)) rfl dX10_drop_66 ?_
            refine aM_kinds X I (v := (U 4 (y + 1))) (by show (ua U 3 y (U 3 (y + 1))) 4 (y + 1) = _; rw [ua_nc (by decide)]) (by omega) dX10_drop_67 ?_
            refine qM_kinds X I (by omega) dX10_drop_68 (fun H locs I => ?_)
            have I : In (KM G) s s.heap H locs ((ua (ua U 3 y (U 3 (y + 1))) 4 y (U 4 (y + 1))), S.2) := I
            refine lv_aload_n X.1 X.2.1 dX10_drop_69 rfl (lv_at hl 0 rfl) ?_
            refine gM_model_ids X I tb_700 dX10_drop_70 ?_
            refine lv_iload_n X.1 X.2.1 dX10_drop_73 rfl (lv_at hl 2 rfl) ?_
            refine lv_aload_n X.1 X.2.1 dX10_drop_74 rfl (lv_at hl 0 rfl) ?_
            refine gM_model_ids X I tb_700 dX10_drop_75 ?_
            refine lv_iload_n X.1 X.2.1 dX10_drop_78 rfl (lv_at hl 2 rfl) ?_
            refine ri_const X (v := 1) dX10_drop_79 ?_
            refine ri_add X (v := (y + 1)) rfl dX10_drop_80 ?_
            refine aM_ids X I (v := (U 5 (y + 1))) (by show (ua (ua U 3 y (U 3 (y + 1))) 4 y (U 4 (y + 1))) 5 (y + 1) = _; rw [ua_nc (by decide), ua_nc (by decide)]) (by omega) dX10_drop_81 ?_
            refine qM_ids X I (by omega) dX10_drop_82 (fun H locs I => ?_)
            have I : In (KM G) s s.heap H locs ((ua (ua (ua U 3 y (U 3 (y + 1))) 4 y (U 4 (y + 1))) 5 y (U 5 (y + 1))), S.2) := I
            refine lv_aload_n X.1 X.2.1 dX10_drop_83 rfl (lv_at hl 0 rfl) ?_
            refine gM_model_picks X I tb_701 dX10_drop_84 ?_
            refine lv_iload_n X.1 X.2.1 dX10_drop_87 rfl (lv_at hl 2 rfl) ?_
            refine lv_aload_n X.1 X.2.1 dX10_drop_88 rfl (lv_at hl 0 rfl) ?_
            refine gM_model_picks X I tb_701 dX10_drop_89 ?_
            refine lv_iload_n X.1 X.2.1 dX10_drop_92 rfl (lv_at hl 2 rfl) ?_
            refine ri_const X (v := 1) dX10_drop_93 ?_
            refine ri_add X (v := (y + 1)) rfl dX10_drop_94 ?_
            refine aM_picks X I (v := (U 6 (y + 1))) (by show (ua (ua (ua U 3 y (U 3 (y + 1))) 4 y (U 4 (y + 1))) 5 y (U 5 (y + 1))) 6 (y + 1) = _; rw [ua_nc (by decide), ua_nc (by decide), ua_nc (by decide)]) (by omega) dX10_drop_95 ?_
            refine qM_picks X I (by omega) dX10_drop_96 (fun H locs I => ?_)
            have I : In (KM G) s s.heap H locs ((ua (ua (ua (ua U 3 y (U 3 (y + 1))) 4 y (U 4 (y + 1))) 5 y (U 5 (y + 1))) 6 y (U 6 (y + 1))), S.2) := I
            refine ri_const X (v := 0) dX10_drop_97 ?_
            refine lv_istore_n (lv' := [(3, .int (iI 0)), (0, .ref (G.2.2 0)), (1, .int (iI x)), (2, .int (iI y))]) X.1 X.2.1 dX10_drop_98 rfl hl (by decide) rfl (fun ls hl => ?_)
            have lp_99 : ∀ (fu_ : Nat) (k : Int) (V : Nat → Int → Int), (12 - k).toNat < fu_ → ∀ (hk : 0 ≤ k ∧ k ≤ U 3 (y + 1)) (hV2 : ∀ i : Int, 0 ≤ i → i < k → V 2 (12 * y + i) = U 2 (12 * y + 12 + i)) (hVf : ∀ (c_ : Nat) (i : Int), ¬ (c_ = 2 ∧ 12 * y ≤ i ∧ i < 12 * y + k) → V c_ i = (ua (ua (ua (ua U 3 y (U 3 (y + 1))) 4 y (U 4 (y + 1))) 5 y (U 5 (y + 1))) 6 y (U 6 (y + 1))) c_ i) (H : Heap) (locs : List Loc), In (KM G) s s.heap H locs (V, S.2) → ∀ ls : Array Slot, lv_has ls 4 [(0, .ref (G.2.2 0)), (1, .int (iI x)), (2, .int (iI y)), (3, .int (iI k))] → W p l e rm_X10_drop s m args below meth c H locs 0 0 (MQ below (QI (KM G) (po_X10_drop S x)) args s 0 0 (KM G).2.2.2) (F0 m 99 ls []) := by
              intro fu_
              induction fu_ with
              | zero => intro k V hm; exact absurd hm (by omega)
              | succ fu_ ih_99 =>
                intro k V hm_99 hk hV2 hVf H locs I ls hl
                refine lv_iload_n X.1 X.2.1 dX10_drop_99 rfl (lv_at hl 3 rfl) ?_
                refine lv_aload_n X.1 X.2.1 dX10_drop_100 rfl (lv_at hl 0 rfl) ?_
                refine gM_model_sizes X I tb_698 dX10_drop_101 ?_
                refine lv_iload_n X.1 X.2.1 dX10_drop_104 rfl (lv_at hl 2 rfl) ?_
                refine aM_sizes X I (v := (U 3 (y + 1))) ((hVf 3 y (by omega)).trans (by show (ua (ua (ua (ua U 3 y (U 3 (y + 1))) 4 y (U 4 (y + 1))) 5 y (U 5 (y + 1))) 6 y (U 6 (y + 1))) 3 y = _; rw [ua_nc (by decide), ua_nc (by decide), ua_nc (by decide), ua_eq])) (by omega) dX10_drop_105 ?_
                refine rj_ge (tgt := 140) X (by omega) (by omega) dX10_drop_106 (by decide) (fun c8 => ?_) (fun c8 => ?_)
                · skip
                  refine ri_iinc X (k := 2) (v := (y + 1)) (lv' := [(2, .int (iI (y + 1))), (0, .ref (G.2.2 0)), (1, .int (iI x)), (3, .int (iI k))]) rfl dX10_drop_140 hl rfl (by decide) rfl (fun ls hl => ?_)
                  refine lv_goto (tgt := 33) X.1 X.2.1 dX10_drop_143 (by decide) ?_
                  exact ih_33 (y + 1) V (by omega) (by omega) ((hVf 51 0 (by omega)).trans (by rw [ua_nc (by decide), ua_nc (by decide), ua_nc (by decide), ua_nc (by decide)]; exact hU51)) (drI_s (by omega) hdr hV2 hVf (by omega) (fun j a b => (hnm _ (by split <;> omega) (by split <;> omega)).1.2)) _ _ I ls (lv_sub hl [1, 2, 0] rfl)
                · skip
                  refine lv_aload_n X.1 X.2.1 dX10_drop_109 rfl (lv_at hl 0 rfl) ?_
                  refine gM_model_signs X I tb_697 dX10_drop_110 ?_
                  refine ri_push X (v := 12) (by decide) dX10_drop_113 ?_
                  refine lv_iload_n X.1 X.2.1 dX10_drop_115 rfl (lv_at hl 2 rfl) ?_
                  refine ri_mul X (v := (12 * y)) rfl dX10_drop_116 ?_
                  refine lv_iload_n X.1 X.2.1 dX10_drop_117 rfl (lv_at hl 3 rfl) ?_
                  refine ri_add X (v := ((12 * y) + k)) rfl dX10_drop_118 ?_
                  refine lv_aload_n X.1 X.2.1 dX10_drop_119 rfl (lv_at hl 0 rfl) ?_
                  refine gM_model_signs X I tb_697 dX10_drop_120 ?_
                  refine ri_push X (v := 12) (by decide) dX10_drop_123 ?_
                  refine lv_iload_n X.1 X.2.1 dX10_drop_125 rfl (lv_at hl 2 rfl) ?_
                  refine ri_mul X (v := (12 * y)) rfl dX10_drop_126 ?_
                  refine ri_push X (v := 12) (by decide) dX10_drop_127 ?_
                  refine ri_add X (v := ((12 * y) + 12)) rfl dX10_drop_129 ?_
                  refine lv_iload_n X.1 X.2.1 dX10_drop_130 rfl (lv_at hl 3 rfl) ?_
                  refine ri_add X (v := (((12 * y) + 12) + k)) rfl dX10_drop_131 ?_
                  refine aM_signs X I (v := (U 2 (((12 * y) + 12) + k))) ((hVf 2 (((12 * y) + 12) + k) (by omega)).trans (by show (ua (ua (ua (ua U 3 y (U 3 (y + 1))) 4 y (U 4 (y + 1))) 5 y (U 5 (y + 1))) 6 y (U 6 (y + 1))) 2 (((12 * y) + 12) + k) = _; rw [ua_nc (by decide), ua_nc (by decide), ua_nc (by decide), ua_nc (by decide)])) (by omega) dX10_drop_132 ?_
                  refine qM_signs X I (by omega) dX10_drop_133 (fun H locs I => ?_)
                  have I : In (KM G) s s.heap H locs ((ua V 2 ((12 * y) + k) (U 2 (((12 * y) + 12) + k))), S.2) := I
                  refine ri_iinc X (k := 3) (v := (k + 1)) (lv' := [(3, .int (iI (k + 1))), (0, .ref (G.2.2 0)), (1, .int (iI x)), (2, .int (iI y))]) rfl dX10_drop_134 hl rfl (by decide) rfl (fun ls hl => ?_)
                  refine lv_goto (tgt := 99) X.1 X.2.1 dX10_drop_137 (by decide) ?_
                  exact ih_99 (k + 1) (ua V 2 ((12 * y) + k) (U 2 (((12 * y) + 12) + k))) (by omega) (by omega) (fun i h1 h2 => by
      rw [ua_at]
      by_cases q : i = k
      · rw [if_pos ⟨rfl, by omega⟩, q]
      · rw [if_neg (by omega)]; exact hV2 i h1 (by omega)) (fun c_ i h => by rw [ua_at, if_neg (by omega)]; exact hVf c_ i (by omega)) _ _ I ls (lv_sub hl [1, 2, 3, 0] rfl)
            exact lp_99 (13) 0 (ua (ua (ua (ua U 3 y (U 3 (y + 1))) 4 y (U 4 (y + 1))) 5 y (U 5 (y + 1))) 6 y (U 6 (y + 1))) (by omega) (by omega) (fun i h1 h2 => absurd h2 (by omega)) (fun c_ i _ => rfl) _ _ I ls (lv_sub hl [1, 2, 3, 0] rfl)
      exact lp_33 (9) x (us S.1 51 ((S.1 51 0) - 1)) (by omega) (by omega) (us_eq) (drI_0) _ _ I ls (lv_sub hl [1, 2, 0] rfl)
    · skip
      refine ri_push X (v := (-2)) (by decide) dX10_drop_18 ?_
      exact rt_i X hr hlk I rfl (by exact Or.inr (Or.inl ⟨by omega, by omega, rfl, rfl⟩)) dX10_drop_20
  · rw [bI_f b4]
    refine rz_ne (tgt := 10) X (by omega) dX10_drop_5 (by decide) (fun c9 => absurd c9 (by decide)) (fun _ => ?_)
    refine ri_const X (v := (-1)) dX10_drop_8 ?_
    exact rt_i X hr hlk I rfl (by exact Or.inl ⟨by omega, rfl, rfl⟩) dX10_drop_9

theorem ok_X10_rename : yX10_rename.cls ≠ "java/lang/invoke/MethodHandle" ∧ yX10_rename.cls ≠ "java/lang/invoke/VarHandle" ∧ (parseMethodDescriptor yX10_rename.desc).map (fun d => d.parameters.length) = some 2 := ⟨by decide +kernel, by decide +kernel, by decide +kernel⟩
abbrev po_X10_rename (S : St)  (x : Int) (u : Int) : Int → St → Prop := fun r S1 => ((¬ (0 ≤ x ∧ x < S.1 51 0) ∨ ¬ (0 ≤ u ∧ u < 4)) ∧ r = -1 ∧ S1 = S) ∨ ((0 ≤ x ∧ x < S.1 51 0) ∧ (0 ≤ u ∧ u < 4) ∧ S.1 4 x = u ∧ r = -2 ∧ S1 = S) ∨ ((0 ≤ x ∧ x < S.1 51 0) ∧ (0 ≤ u ∧ u < 4) ∧ ¬ S.1 4 x = u ∧ r = S.1 4 x ∧ S1 = (us (ua S.1 4 x u) 57 (S.1 57 0 + 1), S.2))
abbrev rm_X10_rename : Room := ({ frames := 1, cells := 0, slots := 0, locals := 21 } : Room)
set_option maxRecDepth 100000 in
set_option maxHeartbeats 4000000 in
theorem k_X10_rename (l : Launch) (G : Ge) (S : St)  (x : Int) (u : Int)  (hx : -2147483648 ≤ x ∧ x < 2147483648) (hu : -2147483648 ≤ u ∧ u < 2147483648) (hI : MI S.1) : Ki (KM G) l yX10_rename cX10_rename 4 .int rm_X10_rename [.ref (G.2.2 0), .int (iI x), .int (iI u)] S (po_X10_rename S x u) := by
  refine K_start (own := "NameSeekerModel") (by decide +kernel) rfl (Nat.le_of_ble_eq_true rfl) ?_
  intro p e s m args below meth c X hr hlk I ls hl
  have hl : lv_has ls 4 [(0, .ref (G.2.2 0)), (1, .int (iI x)), (2, .int (iI u))] := hl
  obtain ⟨ht, hc, hn, hnm, hw, hwd, hkp, hcn, has, hkn⟩ := hI
  refine lv_aload_n X.1 X.2.1 dX10_rename_0 rfl (lv_at hl 0 rfl) ?_
  refine lv_iload_n X.1 X.2.1 dX10_rename_1 rfl (lv_at hl 1 rfl) ?_
  refine cl_i I (runV (As := [.int (iI x)]) (rest := []) X (k_X10_isName l G S  x (S.1 51 0) rfl (by omega) (by omega)) (gdC tb_867 (gdC tb_869 (gdC tb_18 (gdC tb_48 (gdC tb_870 gdB))))) ⟨ok_X10_isName, ⟨Nat.le_of_ble_eq_true rfl, Nat.le_of_ble_eq_true rfl⟩, rfl, rfl⟩ (PreV.of (C := RX10) (T := TX10) (N := 41) I (atM_model) rfl) rfl hl.1 rfl (Nat.le_of_ble_eq_true rfl) dX10_rename_2 ⟨Nat.zero_le _, Nat.zero_le _⟩) (fun r1 S2 H locs q3 I => ?_)
  obtain ⟨e1_, e2_⟩ := q3
  rw [e2_] at I
  rw [e1_]
  clear e1_ e2_
  rcases Decidable.em ((0 ≤ x ∧ x < (S.1 51 0))) with b4 | b4
  · rw [bI_t b4]
    refine rz_eq (tgt := 17) X (by omega) dX10_rename_5 (by decide) (fun c5 => absurd c5 (by decide)) (fun _ => ?_)
    refine lv_iload_n X.1 X.2.1 dX10_rename_8 rfl (lv_at hl 2 rfl) ?_
    refine rz_lt (tgt := 17) X (by omega) dX10_rename_9 (by decide) (fun c6 => ?_) (fun c6 => ?_)
    · skip
      refine ri_const X (v := (-1)) dX10_rename_17 ?_
      exact rt_i X hr hlk I rfl (by exact Or.inl ⟨by omega, rfl, rfl⟩) dX10_rename_18
    · skip
      refine lv_iload_n X.1 X.2.1 dX10_rename_12 rfl (lv_at hl 2 rfl) ?_
      refine ri_const X (v := 3) dX10_rename_13 ?_
      refine rj_le (tgt := 19) X (by omega) (by omega) dX10_rename_14 (by decide) (fun c7 => ?_) (fun c7 => ?_)
      · skip
        have hnx := hnm x (by omega) (by omega)
        obtain ⟨hn1, hn2, hn3, hn4, hn5⟩ := hnx
        refine lv_aload_n X.1 X.2.1 dX10_rename_19 rfl (lv_at hl 0 rfl) ?_
        refine gM_model_kinds X I tb_699 dX10_rename_20 ?_
        refine lv_iload_n X.1 X.2.1 dX10_rename_23 rfl (lv_at hl 1 rfl) ?_
        refine aM_kinds X I (v := (S.1 4 x)) rfl (by omega) dX10_rename_24 ?_
        refine lv_iload_n X.1 X.2.1 dX10_rename_25 rfl (lv_at hl 2 rfl) ?_
        refine rj_ne (tgt := 32) X (by omega) (by omega) dX10_rename_26 (by decide) (fun c8 => ?_) (fun c8 => ?_)
        · skip
          refine lv_aload_n X.1 X.2.1 dX10_rename_32 rfl (lv_at hl 0 rfl) ?_
          refine gM_model_kinds X I tb_699 dX10_rename_33 ?_
          refine lv_iload_n X.1 X.2.1 dX10_rename_36 rfl (lv_at hl 1 rfl) ?_
          refine aM_kinds X I (v := (S.1 4 x)) rfl (by omega) dX10_rename_37 ?_
          refine lv_istore_n (lv' := [(3, .int (iI (S.1 4 x))), (0, .ref (G.2.2 0)), (1, .int (iI x)), (2, .int (iI u))]) X.1 X.2.1 dX10_rename_38 rfl hl (by decide) rfl (fun ls hl => ?_)
          refine lv_aload_n X.1 X.2.1 dX10_rename_39 rfl (lv_at hl 1 rfl) ?_
          refine gM_model_kinds X I tb_699 dX10_rename_40 ?_
          refine lv_iload_n X.1 X.2.1 dX10_rename_43 rfl (lv_at hl 2 rfl) ?_
          refine lv_iload_n X.1 X.2.1 dX10_rename_44 rfl (lv_at hl 3 rfl) ?_
          refine qM_kinds X I (by omega) dX10_rename_45 (fun H locs I => ?_)
          have I : In (KM G) s s.heap H locs ((ua S.1 4 x u), S.2) := I
          refine lv_aload_n X.1 X.2.1 dX10_rename_46 rfl (lv_at hl 1 rfl) ?_
          refine lv_dup X.1 X.2.1 dX10_rename_47 rfl ?_
          refine gM_model_age X I (v := (S.1 57 0)) (by show (ua S.1 4 x u) 57 0 = _; rw [ua_nc (by decide)]) tb_715 dX10_rename_48 ?_
          refine ri_const X (v := 1) dX10_rename_51 ?_
          refine ri_add X (v := ((S.1 57 0) + 1)) rfl dX10_rename_52 ?_
          refine pM_model_age X I tb_715 dX10_rename_53 (fun H locs I => ?_)
          have I : In (KM G) s s.heap H locs ((us (ua S.1 4 x u) 57 ((S.1 57 0) + 1)), S.2) := I
          refine lv_iload_n X.1 X.2.1 dX10_rename_56 rfl (lv_at hl 0 rfl) ?_
          exact rt_i X hr hlk I rfl (by exact Or.inr (Or.inr (⟨by omega, by omega, by omega, rfl, rfl⟩))) dX10_rename_57
        · skip
          refine ri_push X (v := (-2)) (by decide) dX10_rename_29 ?_
          exact rt_i X hr hlk I rfl (by exact Or.inr (Or.inl ⟨by omega, by omega, by omega, rfl, rfl⟩)) dX10_rename_31
      · skip
        refine ri_const X (v := (-1)) dX10_rename_17 ?_
        exact rt_i X hr hlk I rfl (by exact Or.inl ⟨by omega, rfl, rfl⟩) dX10_rename_18
  · rw [bI_f b4]
    refine rz_eq (tgt := 17) X (by omega) dX10_rename_5 (by decide) (fun _ => ?_) (fun c9 => absurd c9 (fun q => q (by decide)))
    refine ri_const X (v := (-1)) dX10_rename_17 ?_
    exact rt_i X hr hlk I rfl (by exact Or.inl ⟨by omega, rfl, rfl⟩) dX10_rename_18

theorem ok_X10_worth : yX10_worth.cls ≠ "java/lang/invoke/MethodHandle" ∧ yX10_worth.cls ≠ "java/lang/invoke/VarHandle" ∧ (parseMethodDescriptor yX10_worth.desc).map (fun d => d.parameters.length) = some 3 := ⟨by decide +kernel, by decide +kernel, by decide +kernel⟩
abbrev po_X10_worth (S : St)  (x : Int) (u : Int) (z : Int) : Int → St → Prop := fun r S1 => (¬ ((0 ≤ x ∧ x ≤ 9) ∧ (0 ≤ u ∧ u ≤ 9) ∧ (0 ≤ z ∧ z ≤ 9)) ∧ r = -1 ∧ S1 = S) ∨ (((0 ≤ x ∧ x ≤ 9) ∧ (0 ≤ u ∧ u ≤ 9) ∧ (0 ≤ z ∧ z ≤ 9)) ∧ (S.1 7 0 = x ∧ S.1 7 1 = u ∧ S.1 7 2 = z) ∧ r = -2 ∧ S1 = S) ∨ (((0 ≤ x ∧ x ≤ 9) ∧ (0 ≤ u ∧ u ≤ 9) ∧ (0 ≤ z ∧ z ≤ 9)) ∧ ¬ (S.1 7 0 = x ∧ S.1 7 1 = u ∧ S.1 7 2 = z) ∧ r = S.1 57 0 + 1 ∧ S1 = (us (ua (ua (ua S.1 7 0 x) 7 1 u) 7 2 z) 57 (S.1 57 0 + 1), S.2))
abbrev rm_X10_worth : Room := ({ frames := 0, cells := 0, slots := 0, locals := 0 } : Room)
set_option maxRecDepth 100000 in
set_option maxHeartbeats 4000000 in
theorem k_X10_worth (l : Launch) (G : Ge) (S : St)  (x : Int) (u : Int) (z : Int)  (hx : -2147483648 ≤ x ∧ x < 2147483648) (hu : -2147483648 ≤ u ∧ u < 2147483648) (hz : -2147483648 ≤ z ∧ z < 2147483648) (hI : MI S.1) : Ki (KM G) l yX10_worth cX10_worth 4 .int rm_X10_worth [.ref (G.2.2 0), .int (iI x), .int (iI u), .int (iI z)] S (po_X10_worth S x u z) := by
  refine K_start (own := "NameSeekerModel") (by decide +kernel) rfl (Nat.le_of_ble_eq_true rfl) ?_
  intro p e s m args below meth c X hr hlk I ls hl
  have hl : lv_has ls 4 [(0, .ref (G.2.2 0)), (1, .int (iI x)), (2, .int (iI u)), (3, .int (iI z))] := hl
  obtain ⟨ht, hc, hn, hnm, hw, hwd, hkp, hcn, has, hkn⟩ := hI
  refine lv_iload_n X.1 X.2.1 dX10_worth_0 rfl (lv_at hl 1 rfl) ?_
  refine rz_lt (tgt := 30) X (by omega) dX10_worth_1 (by decide) (fun c1 => ?_) (fun c1 => ?_)
  · skip
    refine ri_const X (v := (-1)) dX10_worth_30 ?_
    exact rt_i X hr hlk I rfl (by exact Or.inl ⟨by omega, rfl, rfl⟩) dX10_worth_31
  · skip
    refine lv_iload_n X.1 X.2.1 dX10_worth_4 rfl (lv_at hl 1 rfl) ?_
    refine ri_push X (v := 9) (by decide) dX10_worth_5 ?_
    refine rj_gt (tgt := 30) X (by omega) (by omega) dX10_worth_7 (by decide) (fun c2 => ?_) (fun c2 => ?_)
    · skip
      refine ri_const X (v := (-1)) dX10_worth_30 ?_
      exact rt_i X hr hlk I rfl (by exact Or.inl ⟨by omega, rfl, rfl⟩) dX10_worth_31
    · skip
      refine lv_iload_n X.1 X.2.1 dX10_worth_10 rfl (lv_at hl 2 rfl) ?_
      refine rz_lt (tgt := 30) X (by omega) dX10_worth_11 (by decide) (fun c3 => ?_) (fun c3 => ?_)
      · skip
        refine ri_const X (v := (-1)) dX10_worth_30 ?_
        exact rt_i X hr hlk I rfl (by exact Or.inl ⟨by omega, rfl, rfl⟩) dX10_worth_31
      · skip
        refine lv_iload_n X.1 X.2.1 dX10_worth_14 rfl (lv_at hl 2 rfl) ?_
        refine ri_push X (v := 9) (by decide) dX10_worth_15 ?_
        refine rj_gt (tgt := 30) X (by omega) (by omega) dX10_worth_17 (by decide) (fun c4 => ?_) (fun c4 => ?_)
        · skip
          refine ri_const X (v := (-1)) dX10_worth_30 ?_
          exact rt_i X hr hlk I rfl (by exact Or.inl ⟨by omega, rfl, rfl⟩) dX10_worth_31
        · skip
          refine lv_iload_n X.1 X.2.1 dX10_worth_20 rfl (lv_at hl 3 rfl) ?_
          refine rz_lt (tgt := 30) X (by omega) dX10_worth_21 (by decide) (fun c5 => ?_) (fun c5 => ?_)
          · skip
            refine ri_const X (v := (-1)) dX10_worth_30 ?_
            exact rt_i X hr hlk I rfl (by exact Or.inl ⟨by omega, rfl, rfl⟩) dX10_worth_31
          · skip
            refine lv_iload_n X.1 X.2.1 dX10_worth_24 rfl (lv_at hl 3 rfl) ?_
            refine ri_push X (v := 9) (by decide) dX10_worth_25 ?_
            refine rj_le (tgt := 32) X (by omega) (by omega) dX10_worth_27 (by decide) (fun c6 => ?_) (fun c6 => ?_)
            · skip
              have hw0 := hw 0 (by omega) (by omega)
              have hw1 := hw 1 (by omega) (by omega)
              have hw2 := hw 2 (by omega) (by omega)
              refine lv_aload_n X.1 X.2.1 dX10_worth_32 rfl (lv_at hl 0 rfl) ?_
              refine gM_model_worths X I tb_702 dX10_worth_33 ?_
              refine ri_const X (v := 0) dX10_worth_36 ?_
              refine aM_worths X I (v := (S.1 7 0)) rfl (by omega) dX10_worth_37 ?_
              refine lv_iload_n X.1 X.2.1 dX10_worth_38 rfl (lv_at hl 1 rfl) ?_
              refine rj_ne (tgt := 65) X (by omega) (by omega) dX10_worth_39 (by decide) (fun c7 => ?_) (fun c7 => ?_)
              · skip
                refine lv_aload_n X.1 X.2.1 dX10_worth_65 rfl (lv_at hl 0 rfl) ?_
                refine gM_model_worths X I tb_702 dX10_worth_66 ?_
                refine ri_const X (v := 0) dX10_worth_69 ?_
                refine lv_iload_n X.1 X.2.1 dX10_worth_70 rfl (lv_at hl 1 rfl) ?_
                refine qM_worths X I (by omega) dX10_worth_71 (fun H locs I => ?_)
                have I : In (KM G) s s.heap H locs ((ua S.1 7 0 x), S.2) := I
                refine lv_aload_n X.1 X.2.1 dX10_worth_72 rfl (lv_at hl 0 rfl) ?_
                refine gM_model_worths X I tb_702 dX10_worth_73 ?_
                refine ri_const X (v := 1) dX10_worth_76 ?_
                refine lv_iload_n X.1 X.2.1 dX10_worth_77 rfl (lv_at hl 2 rfl) ?_
                refine qM_worths X I (by omega) dX10_worth_78 (fun H locs I => ?_)
                have I : In (KM G) s s.heap H locs ((ua (ua S.1 7 0 x) 7 1 u), S.2) := I
                refine lv_aload_n X.1 X.2.1 dX10_worth_79 rfl (lv_at hl 0 rfl) ?_
                refine gM_model_worths X I tb_702 dX10_worth_80 ?_
                refine ri_const X (v := 2) dX10_worth_83 ?_
                refine lv_iload_n X.1 X.2.1 dX10_worth_84 rfl (lv_at hl 3 rfl) ?_
                refine qM_worths X I (by omega) dX10_worth_85 (fun H locs I => ?_)
                have I : In (KM G) s s.heap H locs ((ua (ua (ua S.1 7 0 x) 7 1 u) 7 2 z), S.2) := I
                refine lv_aload_n X.1 X.2.1 dX10_worth_86 rfl (lv_at hl 0 rfl) ?_
                refine lv_dup X.1 X.2.1 dX10_worth_87 rfl ?_
                refine gM_model_age X I (v := (S.1 57 0)) (by show (ua (ua (ua S.1 7 0 x) 7 1 u) 7 2 z) 57 0 = _; rw [ua_nc (by decide), ua_nc (by decide), ua_nc (by decide)]) tb_715 dX10_worth_88 ?_
                refine ri_const X (v := 1) dX10_worth_91 ?_
                refine ri_add X (v := ((S.1 57 0) + 1)) rfl dX10_worth_92 ?_
                refine pM_model_age X I tb_715 dX10_worth_93 (fun H locs I => ?_)
                have I : In (KM G) s s.heap H locs ((us (ua (ua (ua S.1 7 0 x) 7 1 u) 7 2 z) 57 ((S.1 57 0) + 1)), S.2) := I
                refine lv_aload_n X.1 X.2.1 dX10_worth_96 rfl (lv_at hl 0 rfl) ?_
                refine gM_model_age X I (v := ((S.1 57 0) + 1)) (by show (us (ua (ua (ua S.1 7 0 x) 7 1 u) 7 2 z) 57 ((S.1 57 0) + 1)) 57 0 = _; rw [us_eq]) tb_715 dX10_worth_97 ?_
                exact rt_i X hr hlk I rfl (by exact Or.inr (Or.inr (⟨by omega, by omega, rfl, rfl⟩))) dX10_worth_100
              · skip
                refine lv_aload_n X.1 X.2.1 dX10_worth_42 rfl (lv_at hl 0 rfl) ?_
                refine gM_model_worths X I tb_702 dX10_worth_43 ?_
                refine ri_const X (v := 1) dX10_worth_46 ?_
                refine aM_worths X I (v := (S.1 7 1)) rfl (by omega) dX10_worth_47 ?_
                refine lv_iload_n X.1 X.2.1 dX10_worth_48 rfl (lv_at hl 2 rfl) ?_
                refine rj_ne (tgt := 65) X (by omega) (by omega) dX10_worth_49 (by decide) (fun c8 => ?_) (fun c8 => ?_)
                · skip
                  refine lv_aload_n X.1 X.2.1 dX10_worth_65 rfl (lv_at hl 0 rfl) ?_
                  refine gM_model_worths X I tb_702 dX10_worth_66 ?_
                  refine ri_const X (v := 0) dX10_worth_69 ?_
                  refine lv_iload_n X.1 X.2.1 dX10_worth_70 rfl (lv_at hl 1 rfl) ?_
                  refine qM_worths X I (by omega) dX10_worth_71 (fun H locs I => ?_)
                  have I : In (KM G) s s.heap H locs ((ua S.1 7 0 x), S.2) := I
                  refine lv_aload_n X.1 X.2.1 dX10_worth_72 rfl (lv_at hl 0 rfl) ?_
                  refine gM_model_worths X I tb_702 dX10_worth_73 ?_
                  refine ri_const X (v := 1) dX10_worth_76 ?_
                  refine lv_iload_n X.1 X.2.1 dX10_worth_77 rfl (lv_at hl 2 rfl) ?_
                  refine qM_worths X I (by omega) dX10_worth_78 (fun H locs I => ?_)
                  have I : In (KM G) s s.heap H locs ((ua (ua S.1 7 0 x) 7 1 u), S.2) := I
                  refine lv_aload_n X.1 X.2.1 dX10_worth_79 rfl (lv_at hl 0 rfl) ?_
                  refine gM_model_worths X I tb_702 dX10_worth_80 ?_
                  refine ri_const X (v := 2) dX10_worth_83 ?_
                  refine lv_iload_n X.1 X.2.1 dX10_worth_84 rfl (lv_at hl 3 rfl) ?_
                  refine qM_worths X I (by omega) dX10_worth_85 (fun H locs I => ?_)
                  have I : In (KM G) s s.heap H locs ((ua (ua (ua S.1 7 0 x) 7 1 u) 7 2 z), S.2) := I
                  refine lv_aload_n X.1 X.2.1 dX10_worth_86 rfl (lv_at hl 0 rfl) ?_
                  refine lv_dup X.1 X.2.1 dX10_worth_87 rfl ?_
                  refine gM_model_age X I (v := (S.1 57 0)) (by show (ua (ua (ua S.1 7 0 x) 7 1 u) 7 2 z) 57 0 = _; rw [ua_nc (by decide), ua_nc (by decide), ua_nc (by decide)]) tb_715 dX10_worth_88 ?_
                  refine ri_const X (v := 1) dX10_worth_91 ?_
                  refine ri_add X (v := ((S.1 57 0) + 1)) rfl dX10_worth_92 ?_
                  refine pM_model_age X I tb_715 dX10_worth_93 (fun H locs I => ?_)
                  have I : In (KM G) s s.heap H locs ((us (ua (ua (ua S.1 7 0 x) 7 1 u) 7 2 z) 57 ((S.1 57 0) + 1)), S.2) := I
                  refine lv_aload_n X.1 X.2.1 dX10_worth_96 rfl (lv_at hl 0 rfl) ?_
                  refine gM_model_age X I (v := ((S.1 57 0) + 1)) (by show (us (ua (ua (ua S.1 7 0 x) 7 1 u) 7 2 z) 57 ((S.1 57 0) + 1)) 57 0 = _; rw [us_eq]) tb_715 dX10_worth_97 ?_
                  exact rt_i X hr hlk I rfl (by exact Or.inr (Or.inr (⟨by omega, by omega, rfl, rfl⟩))) dX10_worth_100
                · skip
                  refine lv_aload_n X.1 X.2.1 dX10_worth_52 rfl (lv_at hl 0 rfl) ?_
                  refine gM_model_worths X I tb_702 dX10_worth_53 ?_
                  refine ri_const X (v := 2) dX10_worth_56 ?_
                  refine aM_worths X I (v := (S.1 7 2)) rfl (by omega) dX10_worth_57 ?_
                  refine lv_iload_n X.1 X.2.1 dX10_worth_58 rfl (lv_at hl 3 rfl) ?_
                  refine rj_ne (tgt := 65) X (by omega) (by omega) dX10_worth_59 (by decide) (fun c9 => ?_) (fun c9 => ?_)
                  · skip
                    refine lv_aload_n X.1 X.2.1 dX10_worth_65 rfl (lv_at hl 0 rfl) ?_
                    refine gM_model_worths X I tb_702 dX10_worth_66 ?_
                    refine ri_const X (v := 0) dX10_worth_69 ?_
                    refine lv_iload_n X.1 X.2.1 dX10_worth_70 rfl (lv_at hl 1 rfl) ?_
                    refine qM_worths X I (by omega) dX10_worth_71 (fun H locs I => ?_)
                    have I : In (KM G) s s.heap H locs ((ua S.1 7 0 x), S.2) := I
                    refine lv_aload_n X.1 X.2.1 dX10_worth_72 rfl (lv_at hl 0 rfl) ?_
                    refine gM_model_worths X I tb_702 dX10_worth_73 ?_
                    refine ri_const X (v := 1) dX10_worth_76 ?_
                    refine lv_iload_n X.1 X.2.1 dX10_worth_77 rfl (lv_at hl 2 rfl) ?_
                    refine qM_worths X I (by omega) dX10_worth_78 (fun H locs I => ?_)
                    have I : In (KM G) s s.heap H locs ((ua (ua S.1 7 0 x) 7 1 u), S.2) := I
                    refine lv_aload_n X.1 X.2.1 dX10_worth_79 rfl (lv_at hl 0 rfl) ?_
                    refine gM_model_worths X I tb_702 dX10_worth_80 ?_
                    refine ri_const X (v := 2) dX10_worth_83 ?_
                    refine lv_iload_n X.1 X.2.1 dX10_worth_84 rfl (lv_at hl 3 rfl) ?_
                    refine qM_worths X I (by omega) dX10_worth_85 (fun H locs I => ?_)
                    have I : In (KM G) s s.heap H locs ((ua (ua (ua S.1 7 0 x) 7 1 u) 7 2 z), S.2) := I
                    refine lv_aload_n X.1 X.2.1 dX10_worth_86 rfl (lv_at hl 0 rfl) ?_
                    refine lv_dup X.1 X.2.1 dX10_worth_87 rfl ?_
                    refine gM_model_age X I (v := (S.1 57 0)) (by show (ua (ua (ua S.1 7 0 x) 7 1 u) 7 2 z) 57 0 = _; rw [ua_nc (by decide), ua_nc (by decide), ua_nc (by decide)]) tb_715 dX10_worth_88 ?_
                    refine ri_const X (v := 1) dX10_worth_91 ?_
                    refine ri_add X (v := ((S.1 57 0) + 1)) rfl dX10_worth_92 ?_
                    refine pM_model_age X I tb_715 dX10_worth_93 (fun H locs I => ?_)
                    have I : In (KM G) s s.heap H locs ((us (ua (ua (ua S.1 7 0 x) 7 1 u) 7 2 z) 57 ((S.1 57 0) + 1)), S.2) := I
                    refine lv_aload_n X.1 X.2.1 dX10_worth_96 rfl (lv_at hl 0 rfl) ?_
                    refine gM_model_age X I (v := ((S.1 57 0) + 1)) (by show (us (ua (ua (ua S.1 7 0 x) 7 1 u) 7 2 z) 57 ((S.1 57 0) + 1)) 57 0 = _; rw [us_eq]) tb_715 dX10_worth_97 ?_
                    exact rt_i X hr hlk I rfl (by exact Or.inr (Or.inr (⟨by omega, by omega, rfl, rfl⟩))) dX10_worth_100
                  · skip
                    refine ri_push X (v := (-2)) (by decide) dX10_worth_62 ?_
                    exact rt_i X hr hlk I rfl (by exact Or.inr (Or.inl ⟨by omega, by omega, rfl, rfl⟩)) dX10_worth_64
            · skip
              refine ri_const X (v := (-1)) dX10_worth_30 ?_
              exact rt_i X hr hlk I rfl (by exact Or.inl ⟨by omega, rfl, rfl⟩) dX10_worth_31

theorem ok_X10_asked : yX10_asked.cls ≠ "java/lang/invoke/MethodHandle" ∧ yX10_asked.cls ≠ "java/lang/invoke/VarHandle" ∧ (parseMethodDescriptor yX10_asked.desc).map (fun d => d.parameters.length) = some 1 := ⟨by decide +kernel, by decide +kernel, by decide +kernel⟩
abbrev po_X10_asked (S : St)  (x : Int) : Int → St → Prop := fun r S1 => r = (if ¬ (0 ≤ x ∧ x < 6) then -1 else if x < S.1 61 0 then S.1 15 x % 100003 else -4) ∧ S1 = S
abbrev rm_X10_asked : Room := ({ frames := 0, cells := 0, slots := 0, locals := 0 } : Room)
set_option maxRecDepth 100000 in
set_option maxHeartbeats 4000000 in
theorem k_X10_asked (l : Launch) (G : Ge) (S : St)  (x : Int)  (hx : -2147483648 ≤ x ∧ x < 2147483648) (hI : MI S.1) : Ki (KM G) l yX10_asked cX10_asked 2 .int rm_X10_asked [.ref (G.2.2 0), .int (iI x)] S (po_X10_asked S x) := by
  refine K_start (own := "NameSeekerModel") (by decide +kernel) rfl (Nat.le_of_ble_eq_true rfl) ?_
  intro p e s m args below meth c X hr hlk I ls hl
  have hl : lv_has ls 2 [(0, .ref (G.2.2 0)), (1, .int (iI x))] := hl
  obtain ⟨ht, hc, hn, hnm, hw, hwd, hkp, hcn, has, hkn⟩ := hI
  refine lv_iload_n X.1 X.2.1 dX10_asked_0 rfl (lv_at hl 1 rfl) ?_
  refine rz_lt (tgt := 9) X (by omega) dX10_asked_1 (by decide) (fun c1 => ?_) (fun c1 => ?_)
  · skip
    refine ri_const X (v := (-1)) dX10_asked_9 ?_
    exact rt_i X hr hlk I rfl (by first | (refine ⟨?_, rfl⟩; (first | rw [if_pos (by omega)] | rw [if_neg (by omega), if_pos (by omega)] | rw [if_neg (by omega), if_neg (by omega)]); done) | (exfalso; omega)) dX10_asked_10
  · skip
    refine lv_iload_n X.1 X.2.1 dX10_asked_4 rfl (lv_at hl 1 rfl) ?_
    refine ri_const X (v := 5) dX10_asked_5 ?_
    refine rj_le (tgt := 11) X (by omega) (by omega) dX10_asked_6 (by decide) (fun c2 => ?_) (fun c2 => ?_)
    · skip
      refine lv_iload_n X.1 X.2.1 dX10_asked_11 rfl (lv_at hl 1 rfl) ?_
      refine lv_aload_n X.1 X.2.1 dX10_asked_12 rfl (lv_at hl 0 rfl) ?_
      refine gM_model_askedMany X I (v := (S.1 61 0)) rfl tb_719 dX10_asked_13 ?_
      refine rj_ge (tgt := 33) X (by omega) (by omega) dX10_asked_16 (by decide) (fun c3 => ?_) (fun c3 => ?_)
      · skip
        refine ri_push X (v := (-4)) (by decide) dX10_asked_33 ?_
        exact rt_i X hr hlk I rfl (by first | (refine ⟨?_, rfl⟩; (first | rw [if_pos (by omega)] | rw [if_neg (by omega), if_pos (by omega)] | rw [if_neg (by omega), if_neg (by omega)]); done) | (exfalso; omega)) dX10_asked_35
      · skip
        have hax := has x (by omega) (by omega)
        refine lv_aload_n X.1 X.2.1 dX10_asked_19 rfl (lv_at hl 0 rfl) ?_
        refine gM_model_askedCodes X I tb_720 dX10_asked_20 ?_
        refine lv_iload_n X.1 X.2.1 dX10_asked_23 rfl (lv_at hl 1 rfl) ?_
        refine aM_askedCodes X I (v := (S.1 15 x)) rfl (by omega) dX10_asked_24 ?_
        refine ri_ldc2 X (v := 100003) tb_995 rfl dX10_asked_25 ?_
        refine ri_lrem X (v := ((S.1 15 x) % 100003)) rfl (by omega) (by omega) dX10_asked_28 ?_
        refine ri_l2i X dX10_asked_29 ?_
        refine lv_goto (tgt := 35) X.1 X.2.1 dX10_asked_30 (by decide) ?_
        exact rt_i X hr hlk I rfl (by first | (refine ⟨?_, rfl⟩; (first | rw [if_pos (by omega)] | rw [if_neg (by omega), if_pos (by omega)] | rw [if_neg (by omega), if_neg (by omega)]); done) | (exfalso; omega)) dX10_asked_35
    · skip
      refine ri_const X (v := (-1)) dX10_asked_9 ?_
      exact rt_i X hr hlk I rfl (by first | (refine ⟨?_, rfl⟩; (first | rw [if_pos (by omega)] | rw [if_neg (by omega), if_pos (by omega)] | rw [if_neg (by omega), if_neg (by omega)]); done) | (exfalso; omega)) dX10_asked_10

theorem ok_X10_keep : yX10_keep.cls ≠ "java/lang/invoke/MethodHandle" ∧ yX10_keep.cls ≠ "java/lang/invoke/VarHandle" ∧ (parseMethodDescriptor yX10_keep.desc).map (fun d => d.parameters.length) = some 0 := ⟨by decide +kernel, by decide +kernel, by decide +kernel⟩
abbrev po_X10_keep (S : St)   : Int → St → Prop := fun r S1 => (S.1 54 0 = 2 ∧ r = -3 ∧ S1 = S) ∨ (S.1 54 0 < 2 ∧ r = S.1 54 0 + 1 ∧ ∃ V : Nat → Int → Int, kpP S.1 V ∧ S1 = (us V 54 (S.1 54 0 + 1), S.2))
abbrev rm_X10_keep : Room := ({ frames := 0, cells := 0, slots := 0, locals := 0 } : Room)
set_option maxRecDepth 100000 in
set_option maxHeartbeats 4000000 in
theorem k_X10_keep (l : Launch) (G : Ge) (S : St)    (hI : MI S.1) : Ki (KM G) l yX10_keep cX10_keep 2 .int rm_X10_keep [.ref (G.2.2 0)] S (po_X10_keep S) := by
  refine K_start (own := "NameSeekerModel") (by decide +kernel) rfl (Nat.le_of_ble_eq_true rfl) ?_
  intro p e s m args below meth c X hr hlk I ls hl
  have hl : lv_has ls 2 [(0, .ref (G.2.2 0))] := hl
  obtain ⟨ht, hc, hn, hnm, hw, hwd, hkp, hcn, has, hkn⟩ := hI
  refine lv_aload_n X.1 X.2.1 dX10_keep_0 rfl (lv_at hl 0 rfl) ?_
  refine gM_model_kept X I (v := (S.1 54 0)) rfl tb_710 dX10_keep_1 ?_
  refine ri_const X (v := 2) dX10_keep_4 ?_
  refine rj_ne (tgt := 11) X (by omega) (by omega) dX10_keep_5 (by decide) (fun c1 => ?_) (fun c1 => ?_)
  · skip
    refine lv_aload_n X.1 X.2.1 dX10_keep_11 rfl (lv_at hl 0 rfl) ?_
    refine gM_model_keptSizes X I tb_712 dX10_keep_12 ?_
    refine lv_aload_n X.1 X.2.1 dX10_keep_15 rfl (lv_at hl 0 rfl) ?_
    refine gM_model_kept X I (v := (S.1 54 0)) rfl tb_710 dX10_keep_16 ?_
    refine lv_aload_n X.1 X.2.1 dX10_keep_19 rfl (lv_at hl 0 rfl) ?_
    refine gM_model_wordSize X I (v := (S.1 53 0)) rfl tb_708 dX10_keep_20 ?_
    refine qM_keptSizes X I (by omega) dX10_keep_23 (fun H locs I => ?_)
    have I : In (KM G) s s.heap H locs ((ua S.1 14 (S.1 54 0) (S.1 53 0)), S.2) := I
    refine ri_const X (v := 0) dX10_keep_24 ?_
    refine lv_istore_n (lv' := [(1, .int (iI 0)), (0, .ref (G.2.2 0))]) X.1 X.2.1 dX10_keep_25 rfl hl (by decide) rfl (fun ls hl => ?_)
    have lp_26 : ∀ (fu_ : Nat) (k : Int) (V : Nat → Int → Int), (6 - k).toNat < fu_ → ∀ (hk : 0 ≤ k ∧ k ≤ S.1 53 0) (hV : ∀ i : Int, 0 ≤ i → i < k → V 13 (6 * S.1 54 0 + i) = S.1 12 i) (hVf : ∀ (c_ : Nat) (i : Int), ¬ (c_ = 13 ∧ 6 * S.1 54 0 ≤ i ∧ i < 6 * S.1 54 0 + k) → V c_ i = ua S.1 14 (S.1 54 0) (S.1 53 0) c_ i) (H : Heap) (locs : List Loc), In (KM G) s s.heap H locs (V, S.2) → ∀ ls : Array Slot, lv_has ls 2 [(0, .ref (G.2.2 0)), (1, .int (iI k))] → W p l e rm_X10_keep s m args below meth c H locs 0 0 (MQ below (QI (KM G) (po_X10_keep S)) args s 0 0 (KM G).2.2.2) (F0 m 26 ls []) := by
      intro fu_
      induction fu_ with
      | zero => intro k V hm; exact absurd hm (by omega)
      | succ fu_ ih_26 =>
        intro k V hm_26 hk hV hVf H locs I ls hl
        refine lv_iload_n X.1 X.2.1 dX10_keep_26 rfl (lv_at hl 1 rfl) ?_
        refine lv_aload_n X.1 X.2.1 dX10_keep_27 rfl (lv_at hl 0 rfl) ?_
        refine gM_model_wordSize X I (v := (S.1 53 0)) ((hVf 53 0 (by omega)).trans (by show (ua S.1 14 (S.1 54 0) (S.1 53 0)) 53 0 = _; rw [ua_nc (by decide)])) tb_708 dX10_keep_28 ?_
        refine rj_ge (tgt := 60) X (by omega) (by omega) dX10_keep_31 (by decide) (fun c2 => ?_) (fun c2 => ?_)
        · skip
          refine lv_aload_n X.1 X.2.1 dX10_keep_60 rfl (lv_at hl 0 rfl) ?_
          refine lv_dup X.1 X.2.1 dX10_keep_61 rfl ?_
          refine gM_model_kept X I (v := (S.1 54 0)) ((hVf 54 0 (by omega)).trans (by show (ua S.1 14 (S.1 54 0) (S.1 53 0)) 54 0 = _; rw [ua_nc (by decide)])) tb_710 dX10_keep_62 ?_
          refine ri_const X (v := 1) dX10_keep_65 ?_
          refine ri_add X (v := ((S.1 54 0) + 1)) rfl dX10_keep_66 ?_
          refine pM_model_kept X I tb_710 dX10_keep_67 (fun H locs I => ?_)
          have I : In (KM G) s s.heap H locs ((us V 54 ((S.1 54 0) + 1)), S.2) := I
          refine lv_aload_n X.1 X.2.1 dX10_keep_70 rfl (lv_at hl 0 rfl) ?_
          refine gM_model_kept X I (v := ((S.1 54 0) + 1)) (by show (us V 54 ((S.1 54 0) + 1)) 54 0 = _; rw [us_eq]) tb_710 dX10_keep_71 ?_
          exact rt_i X hr hlk I rfl (by exact Or.inr (⟨by omega, rfl, V, kpP_of (by omega) hV hVf, rfl⟩)) dX10_keep_74
        · skip
          have hwk := hwd.2 k (by omega) (by omega)
          refine lv_aload_n X.1 X.2.1 dX10_keep_34 rfl (lv_at hl 0 rfl) ?_
          refine gM_model_keptRows X I tb_711 dX10_keep_35 ?_
          refine ri_push X (v := 6) (by decide) dX10_keep_38 ?_
          refine lv_aload_n X.1 X.2.1 dX10_keep_40 rfl (lv_at hl 0 rfl) ?_
          refine gM_model_kept X I (v := (S.1 54 0)) ((hVf 54 0 (by omega)).trans (by show (ua S.1 14 (S.1 54 0) (S.1 53 0)) 54 0 = _; rw [ua_nc (by decide)])) tb_710 dX10_keep_41 ?_
          refine ri_mul X (v := (6 * (S.1 54 0))) rfl dX10_keep_44 ?_
          refine lv_iload_n X.1 X.2.1 dX10_keep_45 rfl (lv_at hl 1 rfl) ?_
          refine ri_add X (v := ((6 * (S.1 54 0)) + k)) rfl dX10_keep_46 ?_
          refine lv_aload_n X.1 X.2.1 dX10_keep_47 rfl (lv_at hl 0 rfl) ?_
          refine gM_model_wordRow X I tb_709 dX10_keep_48 ?_
          refine lv_iload_n X.1 X.2.1 dX10_keep_51 rfl (lv_at hl 1 rfl) ?_
          refine aM_wordRow X I (v := (S.1 12 k)) ((hVf 12 k (by omega)).trans (by show (ua S.1 14 (S.1 54 0) (S.1 53 0)) 12 k = _; rw [ua_nc (by decide)])) (by omega) dX10_keep_52 ?_
          refine qM_keptRows X I (by omega) dX10_keep_53 (fun H locs I => ?_)
          have I : In (KM G) s s.heap H locs ((ua V 13 ((6 * (S.1 54 0)) + k) (S.1 12 k)), S.2) := I
          refine ri_iinc X (k := 1) (v := (k + 1)) (lv' := [(1, .int (iI (k + 1))), (0, .ref (G.2.2 0))]) rfl dX10_keep_54 hl rfl (by decide) rfl (fun ls hl => ?_)
          refine lv_goto (tgt := 26) X.1 X.2.1 dX10_keep_57 (by decide) ?_
          exact ih_26 (k + 1) (ua V 13 ((6 * (S.1 54 0)) + k) (S.1 12 k)) (by omega) (by omega) (fun i h1 h2 => by
      rw [ua_at]
      by_cases q : i = k
      · rw [if_pos ⟨rfl, by omega⟩, q]
      · rw [if_neg (by omega)]; exact hV i h1 (by omega)) (fun c_ i h => by rw [ua_at, if_neg (by omega)]; exact hVf c_ i (by omega)) _ _ I ls (lv_sub hl [1, 0] rfl)
    exact lp_26 (7) 0 (ua S.1 14 (S.1 54 0) (S.1 53 0)) (by omega) (by omega) (fun i h1 h2 => absurd h2 (by omega)) (fun c_ i _ => rfl) _ _ I ls (lv_sub hl [1, 0] rfl)
  · skip
    refine ri_push X (v := (-3)) (by decide) dX10_keep_8 ?_
    exact rt_i X hr hlk I rfl (by exact Or.inl ⟨by omega, rfl, rfl⟩) dX10_keep_10

theorem ok_X10_back : yX10_back.cls ≠ "java/lang/invoke/MethodHandle" ∧ yX10_back.cls ≠ "java/lang/invoke/VarHandle" ∧ (parseMethodDescriptor yX10_back.desc).map (fun d => d.parameters.length) = some 0 := ⟨by decide +kernel, by decide +kernel, by decide +kernel⟩
abbrev po_X10_back (S : St)   : Int → St → Prop := fun r S1 => (S.1 54 0 = 0 ∧ r = -2 ∧ S1 = S) ∨ (0 < S.1 54 0 ∧ r = S.1 54 0 - 1 ∧ S1.2 = S.2 ∧ bkP S.1 S1.1)
abbrev rm_X10_back : Room := ({ frames := 0, cells := 0, slots := 0, locals := 0 } : Room)
set_option maxRecDepth 100000 in
set_option maxHeartbeats 4000000 in
theorem k_X10_back (l : Launch) (G : Ge) (S : St)    (hI : MI S.1) : Ki (KM G) l yX10_back cX10_back 2 .int rm_X10_back [.ref (G.2.2 0)] S (po_X10_back S) := by
  refine K_start (own := "NameSeekerModel") (by decide +kernel) rfl (Nat.le_of_ble_eq_true rfl) ?_
  intro p e s m args below meth c X hr hlk I ls hl
  have hl : lv_has ls 2 [(0, .ref (G.2.2 0))] := hl
  obtain ⟨ht, hc, hn, hnm, hw, hwd, hkp, hcn, has, hkn⟩ := hI
  refine lv_aload_n X.1 X.2.1 dX10_back_0 rfl (lv_at hl 0 rfl) ?_
  refine gM_model_kept X I (v := (S.1 54 0)) rfl tb_710 dX10_back_1 ?_
  refine rz_ne (tgt := 10) X (by omega) dX10_back_4 (by decide) (fun c1 => ?_) (fun c1 => ?_)
  · skip
    refine lv_aload_n X.1 X.2.1 dX10_back_10 rfl (lv_at hl 0 rfl) ?_
    refine lv_dup X.1 X.2.1 dX10_back_11 rfl ?_
    refine gM_model_kept X I (v := (S.1 54 0)) rfl tb_710 dX10_back_12 ?_
    refine ri_const X (v := 1) dX10_back_15 ?_
    refine ri_sub X (v := ((S.1 54 0) - 1)) rfl dX10_back_16 ?_
    refine pM_model_kept X I tb_710 dX10_back_17 (fun H locs I => ?_)
    have I : In (KM G) s s.heap H locs ((us S.1 54 ((S.1 54 0) - 1)), S.2) := I
    have hkq := hkp.2 (S.1 54 0 - 1) (by omega) (by omega)
    refine lv_aload_n X.1 X.2.1 dX10_back_20 rfl (lv_at hl 0 rfl) ?_
    refine lv_aload_n X.1 X.2.1 dX10_back_21 rfl (lv_at hl 0 rfl) ?_
    refine gM_model_keptSizes X I tb_712 dX10_back_22 ?_
    refine lv_aload_n X.1 X.2.1 dX10_back_25 rfl (lv_at hl 0 rfl) ?_
    refine gM_model_kept X I (v := ((S.1 54 0) - 1)) (by show (us S.1 54 ((S.1 54 0) - 1)) 54 0 = _; rw [us_eq]) tb_710 dX10_back_26 ?_
    refine aM_keptSizes X I (v := (S.1 14 ((S.1 54 0) - 1))) (by show (us S.1 54 ((S.1 54 0) - 1)) 14 ((S.1 54 0) - 1) = _; rw [us_nc (by decide)]) (by omega) dX10_back_29 ?_
    refine pM_model_wordSize X I tb_708 dX10_back_30 (fun H locs I => ?_)
    have I : In (KM G) s s.heap H locs ((us (us S.1 54 ((S.1 54 0) - 1)) 53 (S.1 14 ((S.1 54 0) - 1))), S.2) := I
    refine ri_const X (v := 0) dX10_back_33 ?_
    refine lv_istore_n (lv' := [(1, .int (iI 0)), (0, .ref (G.2.2 0))]) X.1 X.2.1 dX10_back_34 rfl hl (by decide) rfl (fun ls hl => ?_)
    have lp_35 : ∀ (fu_ : Nat) (k : Int) (V : Nat → Int → Int), (6 - k).toNat < fu_ → ∀ (hk : 0 ≤ k ∧ k ≤ S.1 14 (S.1 54 0 - 1)) (hV : ∀ i : Int, 0 ≤ i → i < k → V 12 i = S.1 13 (6 * (S.1 54 0 - 1) + i)) (hVf : ∀ (c_ : Nat) (i : Int), ¬ c_ = 12 → V c_ i = us (us S.1 54 (S.1 54 0 - 1)) 53 (S.1 14 (S.1 54 0 - 1)) c_ i) (H : Heap) (locs : List Loc), In (KM G) s s.heap H locs (V, S.2) → ∀ ls : Array Slot, lv_has ls 2 [(0, .ref (G.2.2 0)), (1, .int (iI k))] → W p l e rm_X10_back s m args below meth c H locs 0 0 (MQ below (QI (KM G) (po_X10_back S)) args s 0 0 (KM G).2.2.2) (F0 m 35 ls []) := by
      intro fu_
      induction fu_ with
      | zero => intro k V hm; exact absurd hm (by omega)
      | succ fu_ ih_35 =>
        intro k V hm_35 hk hV hVf H locs I ls hl
        refine lv_iload_n X.1 X.2.1 dX10_back_35 rfl (lv_at hl 1 rfl) ?_
        refine lv_aload_n X.1 X.2.1 dX10_back_36 rfl (lv_at hl 0 rfl) ?_
        refine gM_model_wordSize X I (v := (S.1 14 (S.1 54 0 - 1))) ((hVf 53 0 (by omega)).trans (by show (us (us S.1 54 (S.1 54 0 - 1)) 53 (S.1 14 (S.1 54 0 - 1))) 53 0 = _; rw [us_eq])) tb_708 dX10_back_37 ?_
        refine rj_ge (tgt := 69) X (by omega) (by omega) dX10_back_40 (by decide) (fun c2 => ?_) (fun c2 => ?_)
        · skip
          refine lv_aload_n X.1 X.2.1 dX10_back_69 rfl (lv_at hl 0 rfl) ?_
          refine gM_model_kept X I (v := (S.1 54 0 - 1)) ((hVf 54 0 (by omega)).trans (by show (us (us S.1 54 (S.1 54 0 - 1)) 53 (S.1 14 (S.1 54 0 - 1))) 54 0 = _; rw [us_nc (by decide), us_eq])) tb_710 dX10_back_70 ?_
          exact rt_i X hr hlk I rfl (by exact Or.inr (⟨by omega, rfl, rfl, bkP_of (by omega) hV hVf⟩)) dX10_back_73
        · skip
          have hkk := hkq.2 k (by omega) (by omega)
          refine lv_aload_n X.1 X.2.1 dX10_back_43 rfl (lv_at hl 0 rfl) ?_
          refine gM_model_wordRow X I tb_709 dX10_back_44 ?_
          refine lv_iload_n X.1 X.2.1 dX10_back_47 rfl (lv_at hl 1 rfl) ?_
          refine lv_aload_n X.1 X.2.1 dX10_back_48 rfl (lv_at hl 0 rfl) ?_
          refine gM_model_keptRows X I tb_711 dX10_back_49 ?_
          refine ri_push X (v := 6) (by decide) dX10_back_52 ?_
          refine lv_aload_n X.1 X.2.1 dX10_back_54 rfl (lv_at hl 0 rfl) ?_
          refine gM_model_kept X I (v := (S.1 54 0 - 1)) ((hVf 54 0 (by omega)).trans (by show (us (us S.1 54 (S.1 54 0 - 1)) 53 (S.1 14 (S.1 54 0 - 1))) 54 0 = _; rw [us_nc (by decide), us_eq])) tb_710 dX10_back_55 ?_
          refine ri_mul X (v := (6 * (S.1 54 0 - 1))) rfl dX10_back_58 ?_
          refine lv_iload_n X.1 X.2.1 dX10_back_59 rfl (lv_at hl 1 rfl) ?_
          refine ri_add X (v := ((6 * (S.1 54 0 - 1)) + k)) rfl dX10_back_60 ?_
          refine aM_keptRows X I (v := (S.1 13 ((6 * (S.1 54 0 - 1)) + k))) ((hVf 13 ((6 * (S.1 54 0 - 1)) + k) (by omega)).trans (by show (us (us S.1 54 (S.1 54 0 - 1)) 53 (S.1 14 (S.1 54 0 - 1))) 13 ((6 * (S.1 54 0 - 1)) + k) = _; rw [us_nc (by decide), us_nc (by decide)])) (by omega) dX10_back_61 ?_
          refine qM_wordRow X I (by omega) dX10_back_62 (fun H locs I => ?_)
          have I : In (KM G) s s.heap H locs ((ua V 12 k (S.1 13 ((6 * (S.1 54 0 - 1)) + k))), S.2) := I
          refine ri_iinc X (k := 1) (v := (k + 1)) (lv' := [(1, .int (iI (k + 1))), (0, .ref (G.2.2 0))]) rfl dX10_back_63 hl rfl (by decide) rfl (fun ls hl => ?_)
          refine lv_goto (tgt := 35) X.1 X.2.1 dX10_back_66 (by decide) ?_
          exact ih_35 (k + 1) (ua V 12 k (S.1 13 ((6 * (S.1 54 0 - 1)) + k))) (by omega) (by omega) (fun i h1 h2 => by
      rw [ua_at]
      by_cases q : i = k
      · rw [if_pos ⟨rfl, q⟩, q]
      · rw [if_neg (by omega)]; exact hV i h1 (by omega)) (fun c_ i h => by rw [ua_at, if_neg (by omega)]; exact hVf c_ i h) _ _ I ls (lv_sub hl [1, 0] rfl)
    exact lp_35 (7) 0 (us (us S.1 54 ((S.1 54 0) - 1)) 53 (S.1 14 ((S.1 54 0) - 1))) (by omega) (by omega) (fun i h1 h2 => absurd h2 (by omega)) (fun c_ i _ => rfl) _ _ I ls (lv_sub hl [1, 0] rfl)
  · skip
    refine ri_push X (v := (-2)) (by decide) dX10_back_7 ?_
    exact rt_i X hr hlk I rfl (by exact Or.inl ⟨by omega, rfl, rfl⟩) dX10_back_9

theorem ok_X10_count : yX10_count.cls ≠ "java/lang/invoke/MethodHandle" ∧ yX10_count.cls ≠ "java/lang/invoke/VarHandle" ∧ (parseMethodDescriptor yX10_count.desc).map (fun d => d.parameters.length) = some 1 := ⟨by decide +kernel, by decide +kernel, by decide +kernel⟩
abbrev po_X10_count (S : St)  (x : Int) : Int → St → Prop := fun r S1 => r = (if x = 0 then S.1 51 0 else if x = 1 then S.1 7 0 else if x = 2 then S.1 7 1 else if x = 3 then S.1 7 2 else if x = 4 then S.1 55 0 else if x = 5 then S.1 56 0 else if x = 6 then S.1 57 0 else if x = 7 then S.1 58 0 else if x = 8 then S.1 59 0 else if x = 9 then S.1 60 0 else if x = 10 then S.1 54 0 else if x = 11 then S.1 50 0 else if x = 12 then (cdv (S.1 12) (S.1 53 0).toNat) % 100003 else -1) ∧ S1 = S
abbrev rm_X10_count : Room := ({ frames := 2, cells := 0, slots := 0, locals := 44 } : Room)
set_option maxRecDepth 100000 in
set_option maxHeartbeats 4000000 in
theorem k_X10_count (l : Launch) (G : Ge) (S : St)  (x : Int)  (hx : -2147483648 ≤ x ∧ x < 2147483648) (hI : MI S.1) : Ki (KM G) l yX10_count cX10_count 2 .int rm_X10_count [.ref (G.2.2 0), .int (iI x)] S (po_X10_count S x) := by
  refine K_start (own := "NameSeekerModel") (by decide +kernel) rfl (Nat.le_of_ble_eq_true rfl) ?_
  intro p e s m args below meth c X hr hlk I ls hl
  have hl : lv_has ls 2 [(0, .ref (G.2.2 0)), (1, .int (iI x))] := hl
  obtain ⟨ht, hc, hn, hnm, hw, hwd, hkp, hcn, has, hkn⟩ := hI
  refine lv_iload_n X.1 X.2.1 dX10_count_0 rfl (lv_at hl 1 rfl) ?_
  rcases Decidable.em (x = 0) with c1 | c1
  · refine lv_tableIn (off := 67) (tgt := 68) X.1 X.2.1 dX10_count_1 (by rw [iI_t (by omega)]; omega) (by rw [iI_t (by omega)]; omega) (by rw [iI_t (by omega), c1]; rfl) (by decide) ?_
    refine lv_aload_n X.1 X.2.1 dX10_count_68 rfl (lv_at hl 0 rfl) ?_
    refine gM_model_names X I (v := (S.1 51 0)) rfl tb_696 dX10_count_69 ?_
    exact rt_i X hr hlk I rfl (by first | (refine ⟨?_, rfl⟩; (first | (rw [if_pos (by omega)]; done) | (rw [if_neg (by omega), if_pos (by omega)]; done) | (rw [if_neg (by omega), if_neg (by omega), if_pos (by omega)]; done) | (rw [if_neg (by omega), if_neg (by omega), if_neg (by omega), if_pos (by omega)]; done) | (rw [if_neg (by omega), if_neg (by omega), if_neg (by omega), if_neg (by omega), if_pos (by omega)]; done) | (rw [if_neg (by omega), if_neg (by omega), if_neg (by omega), if_neg (by omega), if_neg (by omega), if_pos (by omega)]; done) | (rw [if_neg (by omega), if_neg (by omega), if_neg (by omega), if_neg (by omega), if_neg (by omega), if_neg (by omega), if_pos (by omega)]; done) | (rw [if_neg (by omega), if_neg (by omega), if_neg (by omega), if_neg (by omega), if_neg (by omega), if_neg (by omega), if_neg (by omega), if_pos (by omega)]; done) | (rw [if_neg (by omega), if_neg (by omega), if_neg (by omega), if_neg (by omega), if_neg (by omega), if_neg (by omega), if_neg (by omega), if_neg (by omega), if_pos (by omega)]; done) | (rw [if_neg (by omega), if_neg (by omega), if_neg (by omega), if_neg (by omega), if_neg (by omega), if_neg (by omega), if_neg (by omega), if_neg (by omega), if_neg (by omega), if_pos (by omega)]; done) | (rw [if_neg (by omega), if_neg (by omega), if_neg (by omega), if_neg (by omega), if_neg (by omega), if_neg (by omega), if_neg (by omega), if_neg (by omega), if_neg (by omega), if_neg (by omega), if_pos (by omega)]; done) | (rw [if_neg (by omega), if_neg (by omega), if_neg (by omega), if_neg (by omega), if_neg (by omega), if_neg (by omega), if_neg (by omega), if_neg (by omega), if_neg (by omega), if_neg (by omega), if_neg (by omega), if_pos (by omega)]; done) | (rw [if_neg (by omega), if_neg (by omega), if_neg (by omega), if_neg (by omega), if_neg (by omega), if_neg (by omega), if_neg (by omega), if_neg (by omega), if_neg (by omega), if_neg (by omega), if_neg (by omega), if_neg (by omega), if_pos (by omega)]; done) | (rw [if_neg (by omega), if_neg (by omega), if_neg (by omega), if_neg (by omega), if_neg (by omega), if_neg (by omega), if_neg (by omega), if_neg (by omega), if_neg (by omega), if_neg (by omega), if_neg (by omega), if_neg (by omega), if_neg (by omega)]; done) | (rw [if_neg (by omega), if_pos (by omega)]; exact congrArg (S.1 7) (by omega)) | (rw [if_neg (by omega), if_neg (by omega), if_pos (by omega)]; exact congrArg (S.1 7) (by omega)) | (rw [if_neg (by omega), if_neg (by omega), if_neg (by omega), if_pos (by omega)]; exact congrArg (S.1 7) (by omega))); done) | (exfalso; omega)) dX10_count_72
  rcases Decidable.em (x = 1) with c2 | c2
  · refine lv_tableIn (off := 72) (tgt := 73) X.1 X.2.1 dX10_count_1 (by rw [iI_t (by omega)]; omega) (by rw [iI_t (by omega)]; omega) (by rw [iI_t (by omega), c2]; rfl) (by decide) ?_
    refine lv_aload_n X.1 X.2.1 dX10_count_73 rfl (lv_at hl 0 rfl) ?_
    refine gM_model_worths X I tb_702 dX10_count_74 ?_
    refine lv_iload_n X.1 X.2.1 dX10_count_77 rfl (lv_at hl 1 rfl) ?_
    refine ri_const X (v := 1) dX10_count_78 ?_
    refine ri_sub X (v := (x - 1)) rfl dX10_count_79 ?_
    refine aM_worths X I (v := (S.1 7 (x - 1))) rfl (by omega) dX10_count_80 ?_
    exact rt_i X hr hlk I rfl (by first | (refine ⟨?_, rfl⟩; (first | (rw [if_pos (by omega)]; done) | (rw [if_neg (by omega), if_pos (by omega)]; done) | (rw [if_neg (by omega), if_neg (by omega), if_pos (by omega)]; done) | (rw [if_neg (by omega), if_neg (by omega), if_neg (by omega), if_pos (by omega)]; done) | (rw [if_neg (by omega), if_neg (by omega), if_neg (by omega), if_neg (by omega), if_pos (by omega)]; done) | (rw [if_neg (by omega), if_neg (by omega), if_neg (by omega), if_neg (by omega), if_neg (by omega), if_pos (by omega)]; done) | (rw [if_neg (by omega), if_neg (by omega), if_neg (by omega), if_neg (by omega), if_neg (by omega), if_neg (by omega), if_pos (by omega)]; done) | (rw [if_neg (by omega), if_neg (by omega), if_neg (by omega), if_neg (by omega), if_neg (by omega), if_neg (by omega), if_neg (by omega), if_pos (by omega)]; done) | (rw [if_neg (by omega), if_neg (by omega), if_neg (by omega), if_neg (by omega), if_neg (by omega), if_neg (by omega), if_neg (by omega), if_neg (by omega), if_pos (by omega)]; done) | (rw [if_neg (by omega), if_neg (by omega), if_neg (by omega), if_neg (by omega), if_neg (by omega), if_neg (by omega), if_neg (by omega), if_neg (by omega), if_neg (by omega), if_pos (by omega)]; done) | (rw [if_neg (by omega), if_neg (by omega), if_neg (by omega), if_neg (by omega), if_neg (by omega), if_neg (by omega), if_neg (by omega), if_neg (by omega), if_neg (by omega), if_neg (by omega), if_pos (by omega)]; done) | (rw [if_neg (by omega), if_neg (by omega), if_neg (by omega), if_neg (by omega), if_neg (by omega), if_neg (by omega), if_neg (by omega), if_neg (by omega), if_neg (by omega), if_neg (by omega), if_neg (by omega), if_pos (by omega)]; done) | (rw [if_neg (by omega), if_neg (by omega), if_neg (by omega), if_neg (by omega), if_neg (by omega), if_neg (by omega), if_neg (by omega), if_neg (by omega), if_neg (by omega), if_neg (by omega), if_neg (by omega), if_neg (by omega), if_pos (by omega)]; done) | (rw [if_neg (by omega), if_neg (by omega), if_neg (by omega), if_neg (by omega), if_neg (by omega), if_neg (by omega), if_neg (by omega), if_neg (by omega), if_neg (by omega), if_neg (by omega), if_neg (by omega), if_neg (by omega), if_neg (by omega)]; done) | (rw [if_neg (by omega), if_pos (by omega)]; exact congrArg (S.1 7) (by omega)) | (rw [if_neg (by omega), if_neg (by omega), if_pos (by omega)]; exact congrArg (S.1 7) (by omega)) | (rw [if_neg (by omega), if_neg (by omega), if_neg (by omega), if_pos (by omega)]; exact congrArg (S.1 7) (by omega))); done) | (exfalso; omega)) dX10_count_81
  rcases Decidable.em (x = 2) with c3 | c3
  · refine lv_tableIn (off := 72) (tgt := 73) X.1 X.2.1 dX10_count_1 (by rw [iI_t (by omega)]; omega) (by rw [iI_t (by omega)]; omega) (by rw [iI_t (by omega), c3]; rfl) (by decide) ?_
    refine lv_aload_n X.1 X.2.1 dX10_count_73 rfl (lv_at hl 0 rfl) ?_
    refine gM_model_worths X I tb_702 dX10_count_74 ?_
    refine lv_iload_n X.1 X.2.1 dX10_count_77 rfl (lv_at hl 1 rfl) ?_
    refine ri_const X (v := 1) dX10_count_78 ?_
    refine ri_sub X (v := (x - 1)) rfl dX10_count_79 ?_
    refine aM_worths X I (v := (S.1 7 (x - 1))) rfl (by omega) dX10_count_80 ?_
    exact rt_i X hr hlk I rfl (by first | (refine ⟨?_, rfl⟩; (first | (rw [if_pos (by omega)]; done) | (rw [if_neg (by omega), if_pos (by omega)]; done) | (rw [if_neg (by omega), if_neg (by omega), if_pos (by omega)]; done) | (rw [if_neg (by omega), if_neg (by omega), if_neg (by omega), if_pos (by omega)]; done) | (rw [if_neg (by omega), if_neg (by omega), if_neg (by omega), if_neg (by omega), if_pos (by omega)]; done) | (rw [if_neg (by omega), if_neg (by omega), if_neg (by omega), if_neg (by omega), if_neg (by omega), if_pos (by omega)]; done) | (rw [if_neg (by omega), if_neg (by omega), if_neg (by omega), if_neg (by omega), if_neg (by omega), if_neg (by omega), if_pos (by omega)]; done) | (rw [if_neg (by omega), if_neg (by omega), if_neg (by omega), if_neg (by omega), if_neg (by omega), if_neg (by omega), if_neg (by omega), if_pos (by omega)]; done) | (rw [if_neg (by omega), if_neg (by omega), if_neg (by omega), if_neg (by omega), if_neg (by omega), if_neg (by omega), if_neg (by omega), if_neg (by omega), if_pos (by omega)]; done) | (rw [if_neg (by omega), if_neg (by omega), if_neg (by omega), if_neg (by omega), if_neg (by omega), if_neg (by omega), if_neg (by omega), if_neg (by omega), if_neg (by omega), if_pos (by omega)]; done) | (rw [if_neg (by omega), if_neg (by omega), if_neg (by omega), if_neg (by omega), if_neg (by omega), if_neg (by omega), if_neg (by omega), if_neg (by omega), if_neg (by omega), if_neg (by omega), if_pos (by omega)]; done) | (rw [if_neg (by omega), if_neg (by omega), if_neg (by omega), if_neg (by omega), if_neg (by omega), if_neg (by omega), if_neg (by omega), if_neg (by omega), if_neg (by omega), if_neg (by omega), if_neg (by omega), if_pos (by omega)]; done) | (rw [if_neg (by omega), if_neg (by omega), if_neg (by omega), if_neg (by omega), if_neg (by omega), if_neg (by omega), if_neg (by omega), if_neg (by omega), if_neg (by omega), if_neg (by omega), if_neg (by omega), if_neg (by omega), if_pos (by omega)]; done) | (rw [if_neg (by omega), if_neg (by omega), if_neg (by omega), if_neg (by omega), if_neg (by omega), if_neg (by omega), if_neg (by omega), if_neg (by omega), if_neg (by omega), if_neg (by omega), if_neg (by omega), if_neg (by omega), if_neg (by omega)]; done) | (rw [if_neg (by omega), if_pos (by omega)]; exact congrArg (S.1 7) (by omega)) | (rw [if_neg (by omega), if_neg (by omega), if_pos (by omega)]; exact congrArg (S.1 7) (by omega)) | (rw [if_neg (by omega), if_neg (by omega), if_neg (by omega), if_pos (by omega)]; exact congrArg (S.1 7) (by omega))); done) | (exfalso; omega)) dX10_count_81
  rcases Decidable.em (x = 3) with c4 | c4
  · refine lv_tableIn (off := 72) (tgt := 73) X.1 X.2.1 dX10_count_1 (by rw [iI_t (by omega)]; omega) (by rw [iI_t (by omega)]; omega) (by rw [iI_t (by omega), c4]; rfl) (by decide) ?_
    refine lv_aload_n X.1 X.2.1 dX10_count_73 rfl (lv_at hl 0 rfl) ?_
    refine gM_model_worths X I tb_702 dX10_count_74 ?_
    refine lv_iload_n X.1 X.2.1 dX10_count_77 rfl (lv_at hl 1 rfl) ?_
    refine ri_const X (v := 1) dX10_count_78 ?_
    refine ri_sub X (v := (x - 1)) rfl dX10_count_79 ?_
    refine aM_worths X I (v := (S.1 7 (x - 1))) rfl (by omega) dX10_count_80 ?_
    exact rt_i X hr hlk I rfl (by first | (refine ⟨?_, rfl⟩; (first | (rw [if_pos (by omega)]; done) | (rw [if_neg (by omega), if_pos (by omega)]; done) | (rw [if_neg (by omega), if_neg (by omega), if_pos (by omega)]; done) | (rw [if_neg (by omega), if_neg (by omega), if_neg (by omega), if_pos (by omega)]; done) | (rw [if_neg (by omega), if_neg (by omega), if_neg (by omega), if_neg (by omega), if_pos (by omega)]; done) | (rw [if_neg (by omega), if_neg (by omega), if_neg (by omega), if_neg (by omega), if_neg (by omega), if_pos (by omega)]; done) | (rw [if_neg (by omega), if_neg (by omega), if_neg (by omega), if_neg (by omega), if_neg (by omega), if_neg (by omega), if_pos (by omega)]; done) | (rw [if_neg (by omega), if_neg (by omega), if_neg (by omega), if_neg (by omega), if_neg (by omega), if_neg (by omega), if_neg (by omega), if_pos (by omega)]; done) | (rw [if_neg (by omega), if_neg (by omega), if_neg (by omega), if_neg (by omega), if_neg (by omega), if_neg (by omega), if_neg (by omega), if_neg (by omega), if_pos (by omega)]; done) | (rw [if_neg (by omega), if_neg (by omega), if_neg (by omega), if_neg (by omega), if_neg (by omega), if_neg (by omega), if_neg (by omega), if_neg (by omega), if_neg (by omega), if_pos (by omega)]; done) | (rw [if_neg (by omega), if_neg (by omega), if_neg (by omega), if_neg (by omega), if_neg (by omega), if_neg (by omega), if_neg (by omega), if_neg (by omega), if_neg (by omega), if_neg (by omega), if_pos (by omega)]; done) | (rw [if_neg (by omega), if_neg (by omega), if_neg (by omega), if_neg (by omega), if_neg (by omega), if_neg (by omega), if_neg (by omega), if_neg (by omega), if_neg (by omega), if_neg (by omega), if_neg (by omega), if_pos (by omega)]; done) | (rw [if_neg (by omega), if_neg (by omega), if_neg (by omega), if_neg (by omega), if_neg (by omega), if_neg (by omega), if_neg (by omega), if_neg (by omega), if_neg (by omega), if_neg (by omega), if_neg (by omega), if_neg (by omega), if_pos (by omega)]; done) | (rw [if_neg (by omega), if_neg (by omega), if_neg (by omega), if_neg (by omega), if_neg (by omega), if_neg (by omega), if_neg (by omega), if_neg (by omega), if_neg (by omega), if_neg (by omega), if_neg (by omega), if_neg (by omega), if_neg (by omega)]; done) | (rw [if_neg (by omega), if_pos (by omega)]; exact congrArg (S.1 7) (by omega)) | (rw [if_neg (by omega), if_neg (by omega), if_pos (by omega)]; exact congrArg (S.1 7) (by omega)) | (rw [if_neg (by omega), if_neg (by omega), if_neg (by omega), if_pos (by omega)]; exact congrArg (S.1 7) (by omega))); done) | (exfalso; omega)) dX10_count_81
  rcases Decidable.em (x = 4) with c5 | c5
  · refine lv_tableIn (off := 81) (tgt := 82) X.1 X.2.1 dX10_count_1 (by rw [iI_t (by omega)]; omega) (by rw [iI_t (by omega)]; omega) (by rw [iI_t (by omega), c5]; rfl) (by decide) ?_
    refine lv_aload_n X.1 X.2.1 dX10_count_82 rfl (lv_at hl 0 rfl) ?_
    refine gM_model_laid X I (v := (S.1 55 0)) rfl tb_713 dX10_count_83 ?_
    exact rt_i X hr hlk I rfl (by first | (refine ⟨?_, rfl⟩; (first | (rw [if_pos (by omega)]; done) | (rw [if_neg (by omega), if_pos (by omega)]; done) | (rw [if_neg (by omega), if_neg (by omega), if_pos (by omega)]; done) | (rw [if_neg (by omega), if_neg (by omega), if_neg (by omega), if_pos (by omega)]; done) | (rw [if_neg (by omega), if_neg (by omega), if_neg (by omega), if_neg (by omega), if_pos (by omega)]; done) | (rw [if_neg (by omega), if_neg (by omega), if_neg (by omega), if_neg (by omega), if_neg (by omega), if_pos (by omega)]; done) | (rw [if_neg (by omega), if_neg (by omega), if_neg (by omega), if_neg (by omega), if_neg (by omega), if_neg (by omega), if_pos (by omega)]; done) | (rw [if_neg (by omega), if_neg (by omega), if_neg (by omega), if_neg (by omega), if_neg (by omega), if_neg (by omega), if_neg (by omega), if_pos (by omega)]; done) | (rw [if_neg (by omega), if_neg (by omega), if_neg (by omega), if_neg (by omega), if_neg (by omega), if_neg (by omega), if_neg (by omega), if_neg (by omega), if_pos (by omega)]; done) | (rw [if_neg (by omega), if_neg (by omega), if_neg (by omega), if_neg (by omega), if_neg (by omega), if_neg (by omega), if_neg (by omega), if_neg (by omega), if_neg (by omega), if_pos (by omega)]; done) | (rw [if_neg (by omega), if_neg (by omega), if_neg (by omega), if_neg (by omega), if_neg (by omega), if_neg (by omega), if_neg (by omega), if_neg (by omega), if_neg (by omega), if_neg (by omega), if_pos (by omega)]; done) | (rw [if_neg (by omega), if_neg (by omega), if_neg (by omega), if_neg (by omega), if_neg (by omega), if_neg (by omega), if_neg (by omega), if_neg (by omega), if_neg (by omega), if_neg (by omega), if_neg (by omega), if_pos (by omega)]; done) | (rw [if_neg (by omega), if_neg (by omega), if_neg (by omega), if_neg (by omega), if_neg (by omega), if_neg (by omega), if_neg (by omega), if_neg (by omega), if_neg (by omega), if_neg (by omega), if_neg (by omega), if_neg (by omega), if_pos (by omega)]; done) | (rw [if_neg (by omega), if_neg (by omega), if_neg (by omega), if_neg (by omega), if_neg (by omega), if_neg (by omega), if_neg (by omega), if_neg (by omega), if_neg (by omega), if_neg (by omega), if_neg (by omega), if_neg (by omega), if_neg (by omega)]; done) | (rw [if_neg (by omega), if_pos (by omega)]; exact congrArg (S.1 7) (by omega)) | (rw [if_neg (by omega), if_neg (by omega), if_pos (by omega)]; exact congrArg (S.1 7) (by omega)) | (rw [if_neg (by omega), if_neg (by omega), if_neg (by omega), if_pos (by omega)]; exact congrArg (S.1 7) (by omega))); done) | (exfalso; omega)) dX10_count_86
  rcases Decidable.em (x = 5) with c6 | c6
  · refine lv_tableIn (off := 86) (tgt := 87) X.1 X.2.1 dX10_count_1 (by rw [iI_t (by omega)]; omega) (by rw [iI_t (by omega)]; omega) (by rw [iI_t (by omega), c6]; rfl) (by decide) ?_
    refine lv_aload_n X.1 X.2.1 dX10_count_87 rfl (lv_at hl 0 rfl) ?_
    refine gM_model_tick X I (v := (S.1 56 0)) rfl tb_714 dX10_count_88 ?_
    exact rt_i X hr hlk I rfl (by first | (refine ⟨?_, rfl⟩; (first | (rw [if_pos (by omega)]; done) | (rw [if_neg (by omega), if_pos (by omega)]; done) | (rw [if_neg (by omega), if_neg (by omega), if_pos (by omega)]; done) | (rw [if_neg (by omega), if_neg (by omega), if_neg (by omega), if_pos (by omega)]; done) | (rw [if_neg (by omega), if_neg (by omega), if_neg (by omega), if_neg (by omega), if_pos (by omega)]; done) | (rw [if_neg (by omega), if_neg (by omega), if_neg (by omega), if_neg (by omega), if_neg (by omega), if_pos (by omega)]; done) | (rw [if_neg (by omega), if_neg (by omega), if_neg (by omega), if_neg (by omega), if_neg (by omega), if_neg (by omega), if_pos (by omega)]; done) | (rw [if_neg (by omega), if_neg (by omega), if_neg (by omega), if_neg (by omega), if_neg (by omega), if_neg (by omega), if_neg (by omega), if_pos (by omega)]; done) | (rw [if_neg (by omega), if_neg (by omega), if_neg (by omega), if_neg (by omega), if_neg (by omega), if_neg (by omega), if_neg (by omega), if_neg (by omega), if_pos (by omega)]; done) | (rw [if_neg (by omega), if_neg (by omega), if_neg (by omega), if_neg (by omega), if_neg (by omega), if_neg (by omega), if_neg (by omega), if_neg (by omega), if_neg (by omega), if_pos (by omega)]; done) | (rw [if_neg (by omega), if_neg (by omega), if_neg (by omega), if_neg (by omega), if_neg (by omega), if_neg (by omega), if_neg (by omega), if_neg (by omega), if_neg (by omega), if_neg (by omega), if_pos (by omega)]; done) | (rw [if_neg (by omega), if_neg (by omega), if_neg (by omega), if_neg (by omega), if_neg (by omega), if_neg (by omega), if_neg (by omega), if_neg (by omega), if_neg (by omega), if_neg (by omega), if_neg (by omega), if_pos (by omega)]; done) | (rw [if_neg (by omega), if_neg (by omega), if_neg (by omega), if_neg (by omega), if_neg (by omega), if_neg (by omega), if_neg (by omega), if_neg (by omega), if_neg (by omega), if_neg (by omega), if_neg (by omega), if_neg (by omega), if_pos (by omega)]; done) | (rw [if_neg (by omega), if_neg (by omega), if_neg (by omega), if_neg (by omega), if_neg (by omega), if_neg (by omega), if_neg (by omega), if_neg (by omega), if_neg (by omega), if_neg (by omega), if_neg (by omega), if_neg (by omega), if_neg (by omega)]; done) | (rw [if_neg (by omega), if_pos (by omega)]; exact congrArg (S.1 7) (by omega)) | (rw [if_neg (by omega), if_neg (by omega), if_pos (by omega)]; exact congrArg (S.1 7) (by omega)) | (rw [if_neg (by omega), if_neg (by omega), if_neg (by omega), if_pos (by omega)]; exact congrArg (S.1 7) (by omega))); done) | (exfalso; omega)) dX10_count_91
  rcases Decidable.em (x = 6) with c7 | c7
  · refine lv_tableIn (off := 91) (tgt := 92) X.1 X.2.1 dX10_count_1 (by rw [iI_t (by omega)]; omega) (by rw [iI_t (by omega)]; omega) (by rw [iI_t (by omega), c7]; rfl) (by decide) ?_
    refine lv_aload_n X.1 X.2.1 dX10_count_92 rfl (lv_at hl 0 rfl) ?_
    refine gM_model_age X I (v := (S.1 57 0)) rfl tb_715 dX10_count_93 ?_
    exact rt_i X hr hlk I rfl (by first | (refine ⟨?_, rfl⟩; (first | (rw [if_pos (by omega)]; done) | (rw [if_neg (by omega), if_pos (by omega)]; done) | (rw [if_neg (by omega), if_neg (by omega), if_pos (by omega)]; done) | (rw [if_neg (by omega), if_neg (by omega), if_neg (by omega), if_pos (by omega)]; done) | (rw [if_neg (by omega), if_neg (by omega), if_neg (by omega), if_neg (by omega), if_pos (by omega)]; done) | (rw [if_neg (by omega), if_neg (by omega), if_neg (by omega), if_neg (by omega), if_neg (by omega), if_pos (by omega)]; done) | (rw [if_neg (by omega), if_neg (by omega), if_neg (by omega), if_neg (by omega), if_neg (by omega), if_neg (by omega), if_pos (by omega)]; done) | (rw [if_neg (by omega), if_neg (by omega), if_neg (by omega), if_neg (by omega), if_neg (by omega), if_neg (by omega), if_neg (by omega), if_pos (by omega)]; done) | (rw [if_neg (by omega), if_neg (by omega), if_neg (by omega), if_neg (by omega), if_neg (by omega), if_neg (by omega), if_neg (by omega), if_neg (by omega), if_pos (by omega)]; done) | (rw [if_neg (by omega), if_neg (by omega), if_neg (by omega), if_neg (by omega), if_neg (by omega), if_neg (by omega), if_neg (by omega), if_neg (by omega), if_neg (by omega), if_pos (by omega)]; done) | (rw [if_neg (by omega), if_neg (by omega), if_neg (by omega), if_neg (by omega), if_neg (by omega), if_neg (by omega), if_neg (by omega), if_neg (by omega), if_neg (by omega), if_neg (by omega), if_pos (by omega)]; done) | (rw [if_neg (by omega), if_neg (by omega), if_neg (by omega), if_neg (by omega), if_neg (by omega), if_neg (by omega), if_neg (by omega), if_neg (by omega), if_neg (by omega), if_neg (by omega), if_neg (by omega), if_pos (by omega)]; done) | (rw [if_neg (by omega), if_neg (by omega), if_neg (by omega), if_neg (by omega), if_neg (by omega), if_neg (by omega), if_neg (by omega), if_neg (by omega), if_neg (by omega), if_neg (by omega), if_neg (by omega), if_neg (by omega), if_pos (by omega)]; done) | (rw [if_neg (by omega), if_neg (by omega), if_neg (by omega), if_neg (by omega), if_neg (by omega), if_neg (by omega), if_neg (by omega), if_neg (by omega), if_neg (by omega), if_neg (by omega), if_neg (by omega), if_neg (by omega), if_neg (by omega)]; done) | (rw [if_neg (by omega), if_pos (by omega)]; exact congrArg (S.1 7) (by omega)) | (rw [if_neg (by omega), if_neg (by omega), if_pos (by omega)]; exact congrArg (S.1 7) (by omega)) | (rw [if_neg (by omega), if_neg (by omega), if_neg (by omega), if_pos (by omega)]; exact congrArg (S.1 7) (by omega))); done) | (exfalso; omega)) dX10_count_96
  rcases Decidable.em (x = 7) with c8 | c8
  · refine lv_tableIn (off := 96) (tgt := 97) X.1 X.2.1 dX10_count_1 (by rw [iI_t (by omega)]; omega) (by rw [iI_t (by omega)]; omega) (by rw [iI_t (by omega), c8]; rfl) (by decide) ?_
    refine lv_aload_n X.1 X.2.1 dX10_count_97 rfl (lv_at hl 0 rfl) ?_
    refine gM_model_hits X I (v := (S.1 58 0)) rfl tb_716 dX10_count_98 ?_
    exact rt_i X hr hlk I rfl (by first | (refine ⟨?_, rfl⟩; (first | (rw [if_pos (by omega)]; done) | (rw [if_neg (by omega), if_pos (by omega)]; done) | (rw [if_neg (by omega), if_neg (by omega), if_pos (by omega)]; done) | (rw [if_neg (by omega), if_neg (by omega), if_neg (by omega), if_pos (by omega)]; done) | (rw [if_neg (by omega), if_neg (by omega), if_neg (by omega), if_neg (by omega), if_pos (by omega)]; done) | (rw [if_neg (by omega), if_neg (by omega), if_neg (by omega), if_neg (by omega), if_neg (by omega), if_pos (by omega)]; done) | (rw [if_neg (by omega), if_neg (by omega), if_neg (by omega), if_neg (by omega), if_neg (by omega), if_neg (by omega), if_pos (by omega)]; done) | (rw [if_neg (by omega), if_neg (by omega), if_neg (by omega), if_neg (by omega), if_neg (by omega), if_neg (by omega), if_neg (by omega), if_pos (by omega)]; done) | (rw [if_neg (by omega), if_neg (by omega), if_neg (by omega), if_neg (by omega), if_neg (by omega), if_neg (by omega), if_neg (by omega), if_neg (by omega), if_pos (by omega)]; done) | (rw [if_neg (by omega), if_neg (by omega), if_neg (by omega), if_neg (by omega), if_neg (by omega), if_neg (by omega), if_neg (by omega), if_neg (by omega), if_neg (by omega), if_pos (by omega)]; done) | (rw [if_neg (by omega), if_neg (by omega), if_neg (by omega), if_neg (by omega), if_neg (by omega), if_neg (by omega), if_neg (by omega), if_neg (by omega), if_neg (by omega), if_neg (by omega), if_pos (by omega)]; done) | (rw [if_neg (by omega), if_neg (by omega), if_neg (by omega), if_neg (by omega), if_neg (by omega), if_neg (by omega), if_neg (by omega), if_neg (by omega), if_neg (by omega), if_neg (by omega), if_neg (by omega), if_pos (by omega)]; done) | (rw [if_neg (by omega), if_neg (by omega), if_neg (by omega), if_neg (by omega), if_neg (by omega), if_neg (by omega), if_neg (by omega), if_neg (by omega), if_neg (by omega), if_neg (by omega), if_neg (by omega), if_neg (by omega), if_pos (by omega)]; done) | (rw [if_neg (by omega), if_neg (by omega), if_neg (by omega), if_neg (by omega), if_neg (by omega), if_neg (by omega), if_neg (by omega), if_neg (by omega), if_neg (by omega), if_neg (by omega), if_neg (by omega), if_neg (by omega), if_neg (by omega)]; done) | (rw [if_neg (by omega), if_pos (by omega)]; exact congrArg (S.1 7) (by omega)) | (rw [if_neg (by omega), if_neg (by omega), if_pos (by omega)]; exact congrArg (S.1 7) (by omega)) | (rw [if_neg (by omega), if_neg (by omega), if_neg (by omega), if_pos (by omega)]; exact congrArg (S.1 7) (by omega))); done) | (exfalso; omega)) dX10_count_101
  rcases Decidable.em (x = 8) with c9 | c9
  · refine lv_tableIn (off := 101) (tgt := 102) X.1 X.2.1 dX10_count_1 (by rw [iI_t (by omega)]; omega) (by rw [iI_t (by omega)]; omega) (by rw [iI_t (by omega), c9]; rfl) (by decide) ?_
    refine lv_aload_n X.1 X.2.1 dX10_count_102 rfl (lv_at hl 0 rfl) ?_
    refine gM_model_misses X I (v := (S.1 59 0)) rfl tb_717 dX10_count_103 ?_
    exact rt_i X hr hlk I rfl (by first | (refine ⟨?_, rfl⟩; (first | (rw [if_pos (by omega)]; done) | (rw [if_neg (by omega), if_pos (by omega)]; done) | (rw [if_neg (by omega), if_neg (by omega), if_pos (by omega)]; done) | (rw [if_neg (by omega), if_neg (by omega), if_neg (by omega), if_pos (by omega)]; done) | (rw [if_neg (by omega), if_neg (by omega), if_neg (by omega), if_neg (by omega), if_pos (by omega)]; done) | (rw [if_neg (by omega), if_neg (by omega), if_neg (by omega), if_neg (by omega), if_neg (by omega), if_pos (by omega)]; done) | (rw [if_neg (by omega), if_neg (by omega), if_neg (by omega), if_neg (by omega), if_neg (by omega), if_neg (by omega), if_pos (by omega)]; done) | (rw [if_neg (by omega), if_neg (by omega), if_neg (by omega), if_neg (by omega), if_neg (by omega), if_neg (by omega), if_neg (by omega), if_pos (by omega)]; done) | (rw [if_neg (by omega), if_neg (by omega), if_neg (by omega), if_neg (by omega), if_neg (by omega), if_neg (by omega), if_neg (by omega), if_neg (by omega), if_pos (by omega)]; done) | (rw [if_neg (by omega), if_neg (by omega), if_neg (by omega), if_neg (by omega), if_neg (by omega), if_neg (by omega), if_neg (by omega), if_neg (by omega), if_neg (by omega), if_pos (by omega)]; done) | (rw [if_neg (by omega), if_neg (by omega), if_neg (by omega), if_neg (by omega), if_neg (by omega), if_neg (by omega), if_neg (by omega), if_neg (by omega), if_neg (by omega), if_neg (by omega), if_pos (by omega)]; done) | (rw [if_neg (by omega), if_neg (by omega), if_neg (by omega), if_neg (by omega), if_neg (by omega), if_neg (by omega), if_neg (by omega), if_neg (by omega), if_neg (by omega), if_neg (by omega), if_neg (by omega), if_pos (by omega)]; done) | (rw [if_neg (by omega), if_neg (by omega), if_neg (by omega), if_neg (by omega), if_neg (by omega), if_neg (by omega), if_neg (by omega), if_neg (by omega), if_neg (by omega), if_neg (by omega), if_neg (by omega), if_neg (by omega), if_pos (by omega)]; done) | (rw [if_neg (by omega), if_neg (by omega), if_neg (by omega), if_neg (by omega), if_neg (by omega), if_neg (by omega), if_neg (by omega), if_neg (by omega), if_neg (by omega), if_neg (by omega), if_neg (by omega), if_neg (by omega), if_neg (by omega)]; done) | (rw [if_neg (by omega), if_pos (by omega)]; exact congrArg (S.1 7) (by omega)) | (rw [if_neg (by omega), if_neg (by omega), if_pos (by omega)]; exact congrArg (S.1 7) (by omega)) | (rw [if_neg (by omega), if_neg (by omega), if_neg (by omega), if_pos (by omega)]; exact congrArg (S.1 7) (by omega))); done) | (exfalso; omega)) dX10_count_106
  rcases Decidable.em (x = 9) with c10 | c10
  · refine lv_tableIn (off := 106) (tgt := 107) X.1 X.2.1 dX10_count_1 (by rw [iI_t (by omega)]; omega) (by rw [iI_t (by omega)]; omega) (by rw [iI_t (by omega), c10]; rfl) (by decide) ?_
    refine lv_aload_n X.1 X.2.1 dX10_count_107 rfl (lv_at hl 0 rfl) ?_
    refine gM_model_seed X I (v := (S.1 60 0)) rfl tb_718 dX10_count_108 ?_
    exact rt_i X hr hlk I rfl (by first | (refine ⟨?_, rfl⟩; (first | (rw [if_pos (by omega)]; done) | (rw [if_neg (by omega), if_pos (by omega)]; done) | (rw [if_neg (by omega), if_neg (by omega), if_pos (by omega)]; done) | (rw [if_neg (by omega), if_neg (by omega), if_neg (by omega), if_pos (by omega)]; done) | (rw [if_neg (by omega), if_neg (by omega), if_neg (by omega), if_neg (by omega), if_pos (by omega)]; done) | (rw [if_neg (by omega), if_neg (by omega), if_neg (by omega), if_neg (by omega), if_neg (by omega), if_pos (by omega)]; done) | (rw [if_neg (by omega), if_neg (by omega), if_neg (by omega), if_neg (by omega), if_neg (by omega), if_neg (by omega), if_pos (by omega)]; done) | (rw [if_neg (by omega), if_neg (by omega), if_neg (by omega), if_neg (by omega), if_neg (by omega), if_neg (by omega), if_neg (by omega), if_pos (by omega)]; done) | (rw [if_neg (by omega), if_neg (by omega), if_neg (by omega), if_neg (by omega), if_neg (by omega), if_neg (by omega), if_neg (by omega), if_neg (by omega), if_pos (by omega)]; done) | (rw [if_neg (by omega), if_neg (by omega), if_neg (by omega), if_neg (by omega), if_neg (by omega), if_neg (by omega), if_neg (by omega), if_neg (by omega), if_neg (by omega), if_pos (by omega)]; done) | (rw [if_neg (by omega), if_neg (by omega), if_neg (by omega), if_neg (by omega), if_neg (by omega), if_neg (by omega), if_neg (by omega), if_neg (by omega), if_neg (by omega), if_neg (by omega), if_pos (by omega)]; done) | (rw [if_neg (by omega), if_neg (by omega), if_neg (by omega), if_neg (by omega), if_neg (by omega), if_neg (by omega), if_neg (by omega), if_neg (by omega), if_neg (by omega), if_neg (by omega), if_neg (by omega), if_pos (by omega)]; done) | (rw [if_neg (by omega), if_neg (by omega), if_neg (by omega), if_neg (by omega), if_neg (by omega), if_neg (by omega), if_neg (by omega), if_neg (by omega), if_neg (by omega), if_neg (by omega), if_neg (by omega), if_neg (by omega), if_pos (by omega)]; done) | (rw [if_neg (by omega), if_neg (by omega), if_neg (by omega), if_neg (by omega), if_neg (by omega), if_neg (by omega), if_neg (by omega), if_neg (by omega), if_neg (by omega), if_neg (by omega), if_neg (by omega), if_neg (by omega), if_neg (by omega)]; done) | (rw [if_neg (by omega), if_pos (by omega)]; exact congrArg (S.1 7) (by omega)) | (rw [if_neg (by omega), if_neg (by omega), if_pos (by omega)]; exact congrArg (S.1 7) (by omega)) | (rw [if_neg (by omega), if_neg (by omega), if_neg (by omega), if_pos (by omega)]; exact congrArg (S.1 7) (by omega))); done) | (exfalso; omega)) dX10_count_111
  rcases Decidable.em (x = 10) with c11 | c11
  · refine lv_tableIn (off := 111) (tgt := 112) X.1 X.2.1 dX10_count_1 (by rw [iI_t (by omega)]; omega) (by rw [iI_t (by omega)]; omega) (by rw [iI_t (by omega), c11]; rfl) (by decide) ?_
    refine lv_aload_n X.1 X.2.1 dX10_count_112 rfl (lv_at hl 0 rfl) ?_
    refine gM_model_kept X I (v := (S.1 54 0)) rfl tb_710 dX10_count_113 ?_
    exact rt_i X hr hlk I rfl (by first | (refine ⟨?_, rfl⟩; (first | (rw [if_pos (by omega)]; done) | (rw [if_neg (by omega), if_pos (by omega)]; done) | (rw [if_neg (by omega), if_neg (by omega), if_pos (by omega)]; done) | (rw [if_neg (by omega), if_neg (by omega), if_neg (by omega), if_pos (by omega)]; done) | (rw [if_neg (by omega), if_neg (by omega), if_neg (by omega), if_neg (by omega), if_pos (by omega)]; done) | (rw [if_neg (by omega), if_neg (by omega), if_neg (by omega), if_neg (by omega), if_neg (by omega), if_pos (by omega)]; done) | (rw [if_neg (by omega), if_neg (by omega), if_neg (by omega), if_neg (by omega), if_neg (by omega), if_neg (by omega), if_pos (by omega)]; done) | (rw [if_neg (by omega), if_neg (by omega), if_neg (by omega), if_neg (by omega), if_neg (by omega), if_neg (by omega), if_neg (by omega), if_pos (by omega)]; done) | (rw [if_neg (by omega), if_neg (by omega), if_neg (by omega), if_neg (by omega), if_neg (by omega), if_neg (by omega), if_neg (by omega), if_neg (by omega), if_pos (by omega)]; done) | (rw [if_neg (by omega), if_neg (by omega), if_neg (by omega), if_neg (by omega), if_neg (by omega), if_neg (by omega), if_neg (by omega), if_neg (by omega), if_neg (by omega), if_pos (by omega)]; done) | (rw [if_neg (by omega), if_neg (by omega), if_neg (by omega), if_neg (by omega), if_neg (by omega), if_neg (by omega), if_neg (by omega), if_neg (by omega), if_neg (by omega), if_neg (by omega), if_pos (by omega)]; done) | (rw [if_neg (by omega), if_neg (by omega), if_neg (by omega), if_neg (by omega), if_neg (by omega), if_neg (by omega), if_neg (by omega), if_neg (by omega), if_neg (by omega), if_neg (by omega), if_neg (by omega), if_pos (by omega)]; done) | (rw [if_neg (by omega), if_neg (by omega), if_neg (by omega), if_neg (by omega), if_neg (by omega), if_neg (by omega), if_neg (by omega), if_neg (by omega), if_neg (by omega), if_neg (by omega), if_neg (by omega), if_neg (by omega), if_pos (by omega)]; done) | (rw [if_neg (by omega), if_neg (by omega), if_neg (by omega), if_neg (by omega), if_neg (by omega), if_neg (by omega), if_neg (by omega), if_neg (by omega), if_neg (by omega), if_neg (by omega), if_neg (by omega), if_neg (by omega), if_neg (by omega)]; done) | (rw [if_neg (by omega), if_pos (by omega)]; exact congrArg (S.1 7) (by omega)) | (rw [if_neg (by omega), if_neg (by omega), if_pos (by omega)]; exact congrArg (S.1 7) (by omega)) | (rw [if_neg (by omega), if_neg (by omega), if_neg (by omega), if_pos (by omega)]; exact congrArg (S.1 7) (by omega))); done) | (exfalso; omega)) dX10_count_116
  rcases Decidable.em (x = 11) with c12 | c12
  · refine lv_tableIn (off := 116) (tgt := 117) X.1 X.2.1 dX10_count_1 (by rw [iI_t (by omega)]; omega) (by rw [iI_t (by omega)]; omega) (by rw [iI_t (by omega), c12]; rfl) (by decide) ?_
    refine lv_aload_n X.1 X.2.1 dX10_count_117 rfl (lv_at hl 0 rfl) ?_
    refine gM_model_length X I (v := (S.1 50 0)) rfl tb_694 dX10_count_118 ?_
    exact rt_i X hr hlk I rfl (by first | (refine ⟨?_, rfl⟩; (first | (rw [if_pos (by omega)]; done) | (rw [if_neg (by omega), if_pos (by omega)]; done) | (rw [if_neg (by omega), if_neg (by omega), if_pos (by omega)]; done) | (rw [if_neg (by omega), if_neg (by omega), if_neg (by omega), if_pos (by omega)]; done) | (rw [if_neg (by omega), if_neg (by omega), if_neg (by omega), if_neg (by omega), if_pos (by omega)]; done) | (rw [if_neg (by omega), if_neg (by omega), if_neg (by omega), if_neg (by omega), if_neg (by omega), if_pos (by omega)]; done) | (rw [if_neg (by omega), if_neg (by omega), if_neg (by omega), if_neg (by omega), if_neg (by omega), if_neg (by omega), if_pos (by omega)]; done) | (rw [if_neg (by omega), if_neg (by omega), if_neg (by omega), if_neg (by omega), if_neg (by omega), if_neg (by omega), if_neg (by omega), if_pos (by omega)]; done) | (rw [if_neg (by omega), if_neg (by omega), if_neg (by omega), if_neg (by omega), if_neg (by omega), if_neg (by omega), if_neg (by omega), if_neg (by omega), if_pos (by omega)]; done) | (rw [if_neg (by omega), if_neg (by omega), if_neg (by omega), if_neg (by omega), if_neg (by omega), if_neg (by omega), if_neg (by omega), if_neg (by omega), if_neg (by omega), if_pos (by omega)]; done) | (rw [if_neg (by omega), if_neg (by omega), if_neg (by omega), if_neg (by omega), if_neg (by omega), if_neg (by omega), if_neg (by omega), if_neg (by omega), if_neg (by omega), if_neg (by omega), if_pos (by omega)]; done) | (rw [if_neg (by omega), if_neg (by omega), if_neg (by omega), if_neg (by omega), if_neg (by omega), if_neg (by omega), if_neg (by omega), if_neg (by omega), if_neg (by omega), if_neg (by omega), if_neg (by omega), if_pos (by omega)]; done) | (rw [if_neg (by omega), if_neg (by omega), if_neg (by omega), if_neg (by omega), if_neg (by omega), if_neg (by omega), if_neg (by omega), if_neg (by omega), if_neg (by omega), if_neg (by omega), if_neg (by omega), if_neg (by omega), if_pos (by omega)]; done) | (rw [if_neg (by omega), if_neg (by omega), if_neg (by omega), if_neg (by omega), if_neg (by omega), if_neg (by omega), if_neg (by omega), if_neg (by omega), if_neg (by omega), if_neg (by omega), if_neg (by omega), if_neg (by omega), if_neg (by omega)]; done) | (rw [if_neg (by omega), if_pos (by omega)]; exact congrArg (S.1 7) (by omega)) | (rw [if_neg (by omega), if_neg (by omega), if_pos (by omega)]; exact congrArg (S.1 7) (by omega)) | (rw [if_neg (by omega), if_neg (by omega), if_neg (by omega), if_pos (by omega)]; exact congrArg (S.1 7) (by omega))); done) | (exfalso; omega)) dX10_count_121
  rcases Decidable.em (x = 12) with c13 | c13
  · refine lv_tableIn (off := 121) (tgt := 122) X.1 X.2.1 dX10_count_1 (by rw [iI_t (by omega)]; omega) (by rw [iI_t (by omega)]; omega) (by rw [iI_t (by omega), c13]; rfl) (by decide) ?_
    refine lv_aload_n X.1 X.2.1 dX10_count_122 rfl (lv_at hl 0 rfl) ?_
    refine cl_l I (runV (As := []) (rest := []) X (k_X10_code l G S  (S.1 53 0) (S.1 12) rfl (fun i_ => rfl) (by omega) hwd.2) (gdC tb_924 (gdC tb_926 (gdC tb_21 (gdC tb_48 (gdC tb_927 gdB))))) ⟨ok_X10_code, ⟨Nat.le_of_ble_eq_true rfl, Nat.le_of_ble_eq_true rfl⟩, rfl, rfl⟩ (PreV.of (C := RX10) (T := TX10) (N := 41) I (atM_model) rfl) rfl hl.1 rfl (Nat.le_of_ble_eq_true rfl) dX10_count_123 ⟨Nat.zero_le _, Nat.zero_le _⟩) (fun r14 S15 H locs q16 I => ?_)
    obtain ⟨e1_, e2_⟩ := q16
    rw [e2_] at I
    rw [e1_]
    clear e1_ e2_
    have hcr := cdv_r (f := (S.1 12)) ((S.1 53 0)).toNat (by omega) (fun i h1 h2 => hwd.2 i h1 (by omega))
    refine ri_ldc2 X (v := 100003) tb_995 rfl dX10_count_126 ?_
    refine ri_lrem X (v := ((cdv (S.1 12) ((S.1 53 0)).toNat) % 100003)) rfl (by omega) (by omega) dX10_count_129 ?_
    refine ri_l2i X dX10_count_130 ?_
    exact rt_i X hr hlk I rfl (by first | (refine ⟨?_, rfl⟩; (first | (rw [if_pos (by omega)]; done) | (rw [if_neg (by omega), if_pos (by omega)]; done) | (rw [if_neg (by omega), if_neg (by omega), if_pos (by omega)]; done) | (rw [if_neg (by omega), if_neg (by omega), if_neg (by omega), if_pos (by omega)]; done) | (rw [if_neg (by omega), if_neg (by omega), if_neg (by omega), if_neg (by omega), if_pos (by omega)]; done) | (rw [if_neg (by omega), if_neg (by omega), if_neg (by omega), if_neg (by omega), if_neg (by omega), if_pos (by omega)]; done) | (rw [if_neg (by omega), if_neg (by omega), if_neg (by omega), if_neg (by omega), if_neg (by omega), if_neg (by omega), if_pos (by omega)]; done) | (rw [if_neg (by omega), if_neg (by omega), if_neg (by omega), if_neg (by omega), if_neg (by omega), if_neg (by omega), if_neg (by omega), if_pos (by omega)]; done) | (rw [if_neg (by omega), if_neg (by omega), if_neg (by omega), if_neg (by omega), if_neg (by omega), if_neg (by omega), if_neg (by omega), if_neg (by omega), if_pos (by omega)]; done) | (rw [if_neg (by omega), if_neg (by omega), if_neg (by omega), if_neg (by omega), if_neg (by omega), if_neg (by omega), if_neg (by omega), if_neg (by omega), if_neg (by omega), if_pos (by omega)]; done) | (rw [if_neg (by omega), if_neg (by omega), if_neg (by omega), if_neg (by omega), if_neg (by omega), if_neg (by omega), if_neg (by omega), if_neg (by omega), if_neg (by omega), if_neg (by omega), if_pos (by omega)]; done) | (rw [if_neg (by omega), if_neg (by omega), if_neg (by omega), if_neg (by omega), if_neg (by omega), if_neg (by omega), if_neg (by omega), if_neg (by omega), if_neg (by omega), if_neg (by omega), if_neg (by omega), if_pos (by omega)]; done) | (rw [if_neg (by omega), if_neg (by omega), if_neg (by omega), if_neg (by omega), if_neg (by omega), if_neg (by omega), if_neg (by omega), if_neg (by omega), if_neg (by omega), if_neg (by omega), if_neg (by omega), if_neg (by omega), if_pos (by omega)]; done) | (rw [if_neg (by omega), if_neg (by omega), if_neg (by omega), if_neg (by omega), if_neg (by omega), if_neg (by omega), if_neg (by omega), if_neg (by omega), if_neg (by omega), if_neg (by omega), if_neg (by omega), if_neg (by omega), if_neg (by omega)]; done) | (rw [if_neg (by omega), if_pos (by omega)]; exact congrArg (S.1 7) (by omega)) | (rw [if_neg (by omega), if_neg (by omega), if_pos (by omega)]; exact congrArg (S.1 7) (by omega)) | (rw [if_neg (by omega), if_neg (by omega), if_neg (by omega), if_pos (by omega)]; exact congrArg (S.1 7) (by omega))); done) | (exfalso; omega)) dX10_count_131
  refine lv_tableOut (tgt := 132) X.1 X.2.1 dX10_count_1 (by rw [iI_t (by omega)]; omega) (by decide) ?_
  refine ri_const X (v := (-1)) dX10_count_132 ?_
  exact rt_i X hr hlk I rfl (by first | (refine ⟨?_, rfl⟩; (first | (rw [if_pos (by omega)]; done) | (rw [if_neg (by omega), if_pos (by omega)]; done) | (rw [if_neg (by omega), if_neg (by omega), if_pos (by omega)]; done) | (rw [if_neg (by omega), if_neg (by omega), if_neg (by omega), if_pos (by omega)]; done) | (rw [if_neg (by omega), if_neg (by omega), if_neg (by omega), if_neg (by omega), if_pos (by omega)]; done) | (rw [if_neg (by omega), if_neg (by omega), if_neg (by omega), if_neg (by omega), if_neg (by omega), if_pos (by omega)]; done) | (rw [if_neg (by omega), if_neg (by omega), if_neg (by omega), if_neg (by omega), if_neg (by omega), if_neg (by omega), if_pos (by omega)]; done) | (rw [if_neg (by omega), if_neg (by omega), if_neg (by omega), if_neg (by omega), if_neg (by omega), if_neg (by omega), if_neg (by omega), if_pos (by omega)]; done) | (rw [if_neg (by omega), if_neg (by omega), if_neg (by omega), if_neg (by omega), if_neg (by omega), if_neg (by omega), if_neg (by omega), if_neg (by omega), if_pos (by omega)]; done) | (rw [if_neg (by omega), if_neg (by omega), if_neg (by omega), if_neg (by omega), if_neg (by omega), if_neg (by omega), if_neg (by omega), if_neg (by omega), if_neg (by omega), if_pos (by omega)]; done) | (rw [if_neg (by omega), if_neg (by omega), if_neg (by omega), if_neg (by omega), if_neg (by omega), if_neg (by omega), if_neg (by omega), if_neg (by omega), if_neg (by omega), if_neg (by omega), if_pos (by omega)]; done) | (rw [if_neg (by omega), if_neg (by omega), if_neg (by omega), if_neg (by omega), if_neg (by omega), if_neg (by omega), if_neg (by omega), if_neg (by omega), if_neg (by omega), if_neg (by omega), if_neg (by omega), if_pos (by omega)]; done) | (rw [if_neg (by omega), if_neg (by omega), if_neg (by omega), if_neg (by omega), if_neg (by omega), if_neg (by omega), if_neg (by omega), if_neg (by omega), if_neg (by omega), if_neg (by omega), if_neg (by omega), if_neg (by omega), if_pos (by omega)]; done) | (rw [if_neg (by omega), if_neg (by omega), if_neg (by omega), if_neg (by omega), if_neg (by omega), if_neg (by omega), if_neg (by omega), if_neg (by omega), if_neg (by omega), if_neg (by omega), if_neg (by omega), if_neg (by omega), if_neg (by omega)]; done) | (rw [if_neg (by omega), if_pos (by omega)]; exact congrArg (S.1 7) (by omega)) | (rw [if_neg (by omega), if_neg (by omega), if_pos (by omega)]; exact congrArg (S.1 7) (by omega)) | (rw [if_neg (by omega), if_neg (by omega), if_neg (by omega), if_pos (by omega)]; exact congrArg (S.1 7) (by omega))); done) | (exfalso; omega)) dX10_count_133
