theorem KN_23 {F : Nat → Int → Int} {i v : Int} (h : KN F) : KN (ua F 23 i v) := fun q a b => by
  rw [ua_nc (by decide), ua_nc (by decide), ua_nc (by decide), ua_nc (by decide)]; exact h q a b
/-- how many stand ahead -/
def ahoM (sc pk nf : Int → Int) (x : Int) : Nat → Int
  | 0 => 0
  | y + 1 => if ¬ (y : Int) = x ∧ ¬ sc y = -4 ∧ ahd (sc y) (sc x) (pk y) (pk x) (nf y) (nf x) y x then ahoM sc pk nf x y + 1 else ahoM sc pk nf x y
theorem ahoM_y {sc pk nf : Int → Int} {x y : Int} (h0 : 0 ≤ y) (h : ¬ y = x ∧ ¬ sc y = -4 ∧ ahd (sc y) (sc x) (pk y) (pk x) (nf y) (nf x) y x) : ahoM sc pk nf x (y + 1).toNat = ahoM sc pk nf x y.toNat + 1 := by
  rw [show (y + 1).toNat = y.toNat + 1 by omega, ahoM, show ((y.toNat : Nat) : Int) = y by omega, if_pos h]
theorem ahoM_n {sc pk nf : Int → Int} {x y : Int} (h0 : 0 ≤ y) (h : ¬ (¬ y = x ∧ ¬ sc y = -4 ∧ ahd (sc y) (sc x) (pk y) (pk x) (nf y) (nf x) y x)) : ahoM sc pk nf x (y + 1).toNat = ahoM sc pk nf x y.toNat := by
  rw [show (y + 1).toNat = y.toNat + 1 by omega, ahoM, show ((y.toNat : Nat) : Int) = y by omega, if_neg h]
theorem ahoM_r (sc pk nf : Int → Int) (x : Int) : ∀ y : Nat, 0 ≤ ahoM sc pk nf x y ∧ ahoM sc pk nf x y ≤ y
  | 0 => by rw [ahoM]; omega
  | y + 1 => by
    have := ahoM_r sc pk nf x y
    rw [ahoM]; split <;> omega
/-- how many have a score -/
def nnc (f : Int → Int) : Nat → Int
  | 0 => 0
  | n + 1 => if f n = -4 then nnc f n else nnc f n + 1
theorem nnc_congr {f g : Int → Int} : ∀ n : Nat, (∀ j : Int, 0 ≤ j → j < n → f j = g j) → nnc f n = nnc g n
  | 0, _ => rfl
  | n + 1, h => by rw [nnc, nnc, nnc_congr n (fun j a b => h j a (by omega)), h n (by omega) (by omega)]
theorem nnc_p {W : Nat → Int → Int} {V : Nat → Int → Int} {y v : Int} (h0 : 0 ≤ y) (hv : ¬ v = -4) (h : ∀ j : Int, 0 ≤ j → j < y → V 23 j = W 23 j) : nnc (W 23) y.toNat + 1 = nnc (ua V 23 y v 23) (y + 1).toNat := by
  rw [show (y + 1).toNat = y.toNat + 1 by omega, nnc, show ((y.toNat : Nat) : Int) = y by omega, ua_eq, if_neg hv]
  rw [nnc_congr (f := W 23) (g := ua V 23 y v 23) y.toNat (fun j a b => by rw [ua_ni (by omega)]; exact (h j a (by omega)).symm)]
theorem nnc_m {W : Nat → Int → Int} {V : Nat → Int → Int} {y v : Int} (h0 : 0 ≤ y) (hv : v = -4) (h : ∀ j : Int, 0 ≤ j → j < y → V 23 j = W 23 j) : nnc (W 23) y.toNat = nnc (ua V 23 y v 23) (y + 1).toNat := by
  rw [show (y + 1).toNat = y.toNat + 1 by omega, nnc, show ((y.toNat : Nat) : Int) = y by omega, ua_eq, if_pos hv]
  rw [nnc_congr (f := W 23) (g := ua V 23 y v 23) y.toNat (fun j a b => by rw [ua_ni (by omega)]; exact (h j a (by omega)).symm)]
def lsP (sc pk nf : Int → Int) (N x r : Int) : Prop := (∃ q : Int, (0 ≤ q ∧ q < N) ∧ ¬ sc q = -4 ∧ ahoM sc pk nf q N.toNat = x ∧ r = q ∧ ∀ j : Int, 0 ≤ j → j < q → ¬ (¬ sc j = -4 ∧ ahoM sc pk nf j N.toNat = x)) ∨ (r = -4 ∧ ∀ j : Int, 0 ≤ j → j < N → ¬ (¬ sc j = -4 ∧ ahoM sc pk nf j N.toNat = x))
/-- what was asked goes one place on -/
def askP (F : Nat → Int → Int) (cd : Int) (A : Nat → Int → Int) : Prop := A 15 0 = cd ∧ A 15 1 = F 15 0 ∧ A 15 2 = F 15 1 ∧ A 15 3 = F 15 2 ∧ A 15 4 = F 15 3 ∧ A 15 5 = F 15 4 ∧ A 61 0 = (if 6 < F 61 0 + 1 then 6 else F 61 0 + 1) ∧ ∀ (c_ : Nat) (i : Int), ¬ c_ = 15 → ¬ c_ = 61 → A c_ i = F c_ i
theorem askP_1 {F : Nat → Int → Int} {cd : Int} (h : F 61 0 < 6) : askP F cd (us (ua (ua (ua (ua (ua (ua F 15 5 (F 15 4)) 15 4 (F 15 3)) 15 3 (F 15 2)) 15 2 (F 15 1)) 15 1 (F 15 0)) 15 0 cd) 61 (F 61 0 + 1)) := by
  refine ⟨?_, ?_, ?_, ?_, ?_, ?_, ?_, fun c_ i h1 h2 => ?_⟩
  · rw [us_nc (by decide), ua_eq]
  · rw [us_nc (by decide), ua_ni (by decide), ua_eq]
  · rw [us_nc (by decide), ua_ni (by decide), ua_ni (by decide), ua_eq]
  · rw [us_nc (by decide), ua_ni (by decide), ua_ni (by decide), ua_ni (by decide), ua_eq]
  · rw [us_nc (by decide), ua_ni (by decide), ua_ni (by decide), ua_ni (by decide), ua_ni (by decide), ua_eq]
  · rw [us_nc (by decide), ua_ni (by decide), ua_ni (by decide), ua_ni (by decide), ua_ni (by decide), ua_ni (by decide), ua_eq]
  · rw [us_eq, if_neg (by omega)]
  · rw [us_nc h2, ua_nc h1, ua_nc h1, ua_nc h1, ua_nc h1, ua_nc h1, ua_nc h1]
theorem askP_6 {F : Nat → Int → Int} {cd : Int} (h : 6 ≤ F 61 0 ∧ F 61 0 ≤ 6) : askP F cd (ua (ua (ua (ua (ua (ua F 15 5 (F 15 4)) 15 4 (F 15 3)) 15 3 (F 15 2)) 15 2 (F 15 1)) 15 1 (F 15 0)) 15 0 cd) := by
  refine ⟨?_, ?_, ?_, ?_, ?_, ?_, ?_, fun c_ i h1 h2 => ?_⟩
  · rw [ua_eq]
  · rw [ua_ni (by decide), ua_eq]
  · rw [ua_ni (by decide), ua_ni (by decide), ua_eq]
  · rw [ua_ni (by decide), ua_ni (by decide), ua_ni (by decide), ua_eq]
  · rw [ua_ni (by decide), ua_ni (by decide), ua_ni (by decide), ua_ni (by decide), ua_eq]
  · rw [ua_ni (by decide), ua_ni (by decide), ua_ni (by decide), ua_ni (by decide), ua_ni (by decide), ua_eq]
  · rw [ua_nc (by decide), ua_nc (by decide), ua_nc (by decide), ua_nc (by decide), ua_nc (by decide), ua_nc (by decide), if_pos (by omega)]; omega
  · rw [ua_nc h1, ua_nc h1, ua_nc h1, ua_nc h1, ua_nc h1, ua_nc h1]
theorem MI_ask {F A : Nat → Int → Int} {cd : Int} (h : MI F) (hc : 0 ≤ cd ∧ cd < 1099511627776) (ha : askP F cd A) : MI A := by
  obtain ⟨a0, a1, a2, a3, a4, a5, a6, f⟩ := ha
  obtain ⟨h1, h2, h3, h4, h5, h6, h7, h8, h9, h10⟩ := h
  have g : ∀ c_ : Nat, ¬ c_ = 15 → ¬ c_ = 61 → A c_ = F c_ := fun c_ p q => funext (fun i => f c_ i p q)
  unfold MI
  unfold NM at *
  simp only [g 50 (by decide) (by decide), g 1 (by decide) (by decide), g 51 (by decide) (by decide), g 2 (by decide) (by decide), g 3 (by decide) (by decide), g 4 (by decide) (by decide), g 5 (by decide) (by decide), g 6 (by decide) (by decide), g 7 (by decide) (by decide), g 53 (by decide) (by decide), g 12 (by decide) (by decide), g 54 (by decide) (by decide), g 13 (by decide) (by decide), g 14 (by decide) (by decide), g 55 (by decide) (by decide), g 56 (by decide) (by decide), g 57 (by decide) (by decide), g 58 (by decide) (by decide), g 59 (by decide) (by decide), g 60 (by decide) (by decide), g 16 (by decide) (by decide), g 17 (by decide) (by decide), g 18 (by decide) (by decide), g 19 (by decide) (by decide)]
  refine ⟨h1, h2, h3, h4, h5, h6, h7, ⟨h8.1, h8.2.1, h8.2.2.1, h8.2.2.2.1, h8.2.2.2.2.1, h8.2.2.2.2.2.1, ?_⟩, fun i p q => ?_, h10⟩
  · rw [a6]; split <;> omega
  · have e : i = 0 ∨ i = 1 ∨ i = 2 ∨ i = 3 ∨ i = 4 ∨ i = 5 := by omega
    rcases e with e | e | e | e | e | e <;> subst e
    · rw [a0]; exact hc
    · rw [a1]; exact h9 0 (by omega) (by omega)
    · rw [a2]; exact h9 1 (by omega) (by omega)
    · rw [a3]; exact h9 2 (by omega) (by omega)
    · rw [a4]; exact h9 3 (by omega) (by omega)
    · rw [a5]; exact h9 4 (by omega) (by omega)
abbrev scF (F : Nat → Int → Int) (y : Int) : Int := (resS (fun z_ => F 2 (12 * y + z_)) (F 12) (F 4 y) (F 7 0) (F 7 1) (F 7 2) (F 3 y) (F 53 0)).2.1
abbrev psF (F : Nat → Int → Int) (y : Int) : Prop := psL (fun z_ => F 2 (12 * y + z_)) (F 3 y).toNat (F 12) (F 53 0).toNat = true
/-- all that pass are sought, one behind the other -/
def skMA (F : Nat → Int → Int) : Nat → Nat → Int → Int
  | 0 => F
  | n + 1 => if psF F n then ua (skM (skMA F n) (F 5 n) (F 57 0) (cdv (F 12) (F 53 0).toNat) (scF F n)).1 23 n (skM (skMA F n) (F 5 n) (F 57 0) (cdv (F 12) (F 53 0).toNat) (scF F n)).2 else ua (skMA F n) 23 n (-4)
theorem skM_congr {U F : Nat → Int → Int} {di ag cd sc : Int} (h : ∀ (c_ : Nat) (i : Int), ¬ (20 ≤ c_ ∧ c_ ≤ 22) → ¬ c_ = 62 → ¬ c_ = 63 → U c_ i = F c_ i) : (∀ (c_ : Nat) (i : Int), ¬ (20 ≤ c_ ∧ c_ ≤ 22) → ¬ c_ = 62 → ¬ c_ = 63 → (skM U di ag cd sc).1 c_ i = (skM F di ag cd sc).1 c_ i) ∧ (skM U di ag cd sc).2 = (skM F di ag cd sc).2 := by
  unfold skM
  rw [h 16 _ (by decide) (by decide) (by decide), h 17 _ (by decide) (by decide) (by decide), h 18 _ (by decide) (by decide) (by decide), h 19 _ (by decide) (by decide) (by decide), h 58 _ (by decide) (by decide) (by decide), h 59 _ (by decide) (by decide) (by decide)]
  split
  · refine ⟨fun c_ i h1 h2 h3 => ?_, rfl⟩
    dsimp only
    rw [us_at, us_at, h c_ i h1 h2 h3]
  · refine ⟨fun c_ i h1 h2 h3 => ?_, rfl⟩
    dsimp only
    refine ua4_congr ?_
    rw [us_at, us_at, h c_ i h1 h2 h3]
theorem skMA_n {F W : Nat → Int → Int} {y : Int} (hy : 0 ≤ y) (h : ∀ (c_ : Nat) (i : Int), ¬ (20 ≤ c_ ∧ c_ ≤ 22) → ¬ c_ = 62 → ¬ c_ = 63 → W c_ i = skMA F y.toNat c_ i) (hp : ¬ psF F y) : ∀ (c_ : Nat) (i : Int), ¬ (20 ≤ c_ ∧ c_ ≤ 22) → ¬ c_ = 62 → ¬ c_ = 63 → ua W 23 y (-4) c_ i = skMA F (y + 1).toNat c_ i := fun c_ i h1 h2 h3 => by
  rw [show (y + 1).toNat = y.toNat + 1 by omega, skMA, show ((y.toNat : Nat) : Int) = y by omega, if_neg hp]
  exact ua_congr (h c_ i h1 h2 h3)
theorem skMA_y {F W V : Nat → Int → Int} {y : Int} (hy : 0 ≤ y) (h : ∀ (c_ : Nat) (i : Int), ¬ (20 ≤ c_ ∧ c_ ≤ 22) → ¬ c_ = 62 → ¬ c_ = 63 → W c_ i = skMA F y.toNat c_ i) (hp : psF F y) (hV : ∀ (c_ : Nat) (i : Int), ¬ (20 ≤ c_ ∧ c_ ≤ 22) → ¬ c_ = 62 → ¬ c_ = 63 → V c_ i = (skM W (F 5 y) (F 57 0) (cdv (F 12) (F 53 0).toNat) (scF F y)).1 c_ i) : ∀ (c_ : Nat) (i : Int), ¬ (20 ≤ c_ ∧ c_ ≤ 22) → ¬ c_ = 62 → ¬ c_ = 63 → ua V 23 y (skM W (F 5 y) (F 57 0) (cdv (F 12) (F 53 0).toNat) (scF F y)).2 c_ i = skMA F (y + 1).toNat c_ i := fun c_ i h1 h2 h3 => by
  have e := skM_congr (di := F 5 y) (ag := F 57 0) (cd := cdv (F 12) (F 53 0).toNat) (sc := scF F y) h
  rw [show (y + 1).toNat = y.toNat + 1 by omega, skMA, show ((y.toNat : Nat) : Int) = y by omega, if_pos hp, e.2]
  exact ua_congr ((hV c_ i h1 h2 h3).trans (e.1 c_ i h1 h2 h3))
theorem psb_lt (Pr : Int → Prop) : ∀ n : Nat, 0 ≤ psb Pr n ∧ (psb Pr n).toNat < 2 ^ n
  | 0 => by rw [psb]; exact ⟨by omega, by decide⟩
  | n + 1 => by
    have h := psb_lt Pr n
    have h2 : 2 ^ (n + 1) = 2 ^ n + 2 ^ n := by rw [Nat.pow_succ]; omega
    rw [psb]
    split
    · unfold bor pw
      have := Nat.or_lt_two_pow (x := (psb Pr n).toNat) (y := ((2 ^ ((n : Int)).toNat : Nat) : Int).toNat) (n := n + 1) (by omega) (by rw [Int.toNat_natCast, Int.toNat_natCast]; omega)
      omega
    · omega
theorem psb_a {Pr : Int → Prop} {n : Int} (hn : 0 ≤ n) (h : Pr n) : psb Pr n.toNat + pw n = psb Pr (n + 1).toNat := by
  rw [← psb_y hn h]
  have e : ((n.toNat : Nat) : Int) = n := by omega
  have := bor_pw (psb_lt Pr n.toNat)
  rw [e] at this
  exact this.symm

theorem ok_X10_isAhead : yX10_isAhead.cls ≠ "java/lang/invoke/MethodHandle" ∧ yX10_isAhead.cls ≠ "java/lang/invoke/VarHandle" ∧ (parseMethodDescriptor yX10_isAhead.desc).map (fun d => d.parameters.length) = some 2 := ⟨by decide +kernel, by decide +kernel, by decide +kernel⟩
abbrev po_X10_isAhead (S : St)  (x : Int) (u : Int) (s1 : Int) (s2 : Int) (p1 : Int) (p2 : Int) (z1 : Int) (z2 : Int) : Int → St → Prop := fun r S1 => r = bI (ahd s1 s2 p1 p2 z1 z2 x u) ∧ S1 = S
abbrev rm_X10_isAhead : Room := ({ frames := 0, cells := 0, slots := 0, locals := 0 } : Room)
set_option maxRecDepth 100000 in
set_option maxHeartbeats 4000000 in
theorem k_X10_isAhead (l : Launch) (G : Ge) (S : St)  (x : Int) (u : Int) (s1 : Int) (s2 : Int) (p1 : Int) (p2 : Int) (z1 : Int) (z2 : Int) (e_s1 : S.1 23 x = s1) (e_s2 : S.1 23 u = s2) (e_p1 : S.1 6 x = p1) (e_p2 : S.1 6 u = p2) (e_z1 : S.1 3 x = z1) (e_z2 : S.1 3 u = z2) (hx : 0 ≤ x ∧ x < 8) (hu : 0 ≤ u ∧ u < 8) (h1 : -2000 ≤ s1 ∧ s1 ≤ 2000) (h2 : -2000 ≤ s2 ∧ s2 ≤ 2000) (h3 : 0 ≤ p1 ∧ p1 ≤ 100000) (h4 : 0 ≤ p2 ∧ p2 ≤ 100000) (h5 : 0 ≤ z1 ∧ z1 ≤ 12) (h6 : 0 ≤ z2 ∧ z2 ≤ 12) : Ki (KM G) l yX10_isAhead cX10_isAhead 3 .boolean rm_X10_isAhead [.ref (G.2.2 0), .int (iI x), .int (iI u)] S (po_X10_isAhead S x u s1 s2 p1 p2 z1 z2) := by
  refine K_start (own := "NameSeekerModel") (by decide +kernel) rfl (Nat.le_of_ble_eq_true rfl) ?_
  intro p e s m args below meth c X hr hlk I ls hl
  have hl : lv_has ls 3 [(0, .ref (G.2.2 0)), (1, .int (iI x)), (2, .int (iI u))] := hl
  refine lv_aload_n X.1 X.2.1 dX10_isAhead_0 rfl (lv_at hl 0 rfl) ?_
  refine gM_model_scores X I tb_730 dX10_isAhead_1 ?_
  refine lv_iload_n X.1 X.2.1 dX10_isAhead_4 rfl (lv_at hl 1 rfl) ?_
  refine aM_scores X I (v := s1) e_s1 (by omega) dX10_isAhead_5 ?_
  refine lv_aload_n X.1 X.2.1 dX10_isAhead_6 rfl (lv_at hl 0 rfl) ?_
  refine gM_model_scores X I tb_730 dX10_isAhead_7 ?_
  refine lv_iload_n X.1 X.2.1 dX10_isAhead_10 rfl (lv_at hl 2 rfl) ?_
  refine aM_scores X I (v := s2) e_s2 (by omega) dX10_isAhead_11 ?_
  refine rj_eq (tgt := 36) X (by omega) (by omega) dX10_isAhead_12 (by decide) (fun c1 => ?_) (fun c1 => ?_)
  · skip
    refine lv_aload_n X.1 X.2.1 dX10_isAhead_36 rfl (lv_at hl 0 rfl) ?_
    refine gM_model_picks X I tb_701 dX10_isAhead_37 ?_
    refine lv_iload_n X.1 X.2.1 dX10_isAhead_40 rfl (lv_at hl 1 rfl) ?_
    refine aM_picks X I (v := p1) e_p1 (by omega) dX10_isAhead_41 ?_
    refine lv_aload_n X.1 X.2.1 dX10_isAhead_42 rfl (lv_at hl 0 rfl) ?_
    refine gM_model_picks X I tb_701 dX10_isAhead_43 ?_
    refine lv_iload_n X.1 X.2.1 dX10_isAhead_46 rfl (lv_at hl 2 rfl) ?_
    refine aM_picks X I (v := p2) e_p2 (by omega) dX10_isAhead_47 ?_
    refine rj_eq (tgt := 72) X (by omega) (by omega) dX10_isAhead_48 (by decide) (fun c2 => ?_) (fun c2 => ?_)
    · skip
      refine lv_aload_n X.1 X.2.1 dX10_isAhead_72 rfl (lv_at hl 0 rfl) ?_
      refine gM_model_sizes X I tb_698 dX10_isAhead_73 ?_
      refine lv_iload_n X.1 X.2.1 dX10_isAhead_76 rfl (lv_at hl 1 rfl) ?_
      refine aM_sizes X I (v := z1) e_z1 (by omega) dX10_isAhead_77 ?_
      refine lv_aload_n X.1 X.2.1 dX10_isAhead_78 rfl (lv_at hl 0 rfl) ?_
      refine gM_model_sizes X I tb_698 dX10_isAhead_79 ?_
      refine lv_iload_n X.1 X.2.1 dX10_isAhead_82 rfl (lv_at hl 2 rfl) ?_
      refine aM_sizes X I (v := z2) e_z2 (by omega) dX10_isAhead_83 ?_
      refine rj_eq (tgt := 108) X (by omega) (by omega) dX10_isAhead_84 (by decide) (fun c3 => ?_) (fun c3 => ?_)
      · skip
        refine lv_iload_n X.1 X.2.1 dX10_isAhead_108 rfl (lv_at hl 1 rfl) ?_
        refine lv_iload_n X.1 X.2.1 dX10_isAhead_109 rfl (lv_at hl 2 rfl) ?_
        refine rj_ge (tgt := 117) X (by omega) (by omega) dX10_isAhead_110 (by decide) (fun c4 => ?_) (fun c4 => ?_)
        · skip
          refine ri_const X (v := 0) dX10_isAhead_117 ?_
          exact rt_i X hr hlk I (by rfl) (by refine ⟨(bI_f ?_).symm, rfl⟩; unfold ahd; omega) dX10_isAhead_118
        · skip
          refine ri_const X (v := 1) dX10_isAhead_113 ?_
          refine lv_goto (tgt := 118) X.1 X.2.1 dX10_isAhead_114 (by decide) ?_
          exact rt_i X hr hlk I (by rfl) (by refine ⟨(bI_t ?_).symm, rfl⟩; unfold ahd; omega) dX10_isAhead_118
      · skip
        refine lv_aload_n X.1 X.2.1 dX10_isAhead_87 rfl (lv_at hl 0 rfl) ?_
        refine gM_model_sizes X I tb_698 dX10_isAhead_88 ?_
        refine lv_iload_n X.1 X.2.1 dX10_isAhead_91 rfl (lv_at hl 1 rfl) ?_
        refine aM_sizes X I (v := z1) e_z1 (by omega) dX10_isAhead_92 ?_
        refine lv_aload_n X.1 X.2.1 dX10_isAhead_93 rfl (lv_at hl 0 rfl) ?_
        refine gM_model_sizes X I tb_698 dX10_isAhead_94 ?_
        refine lv_iload_n X.1 X.2.1 dX10_isAhead_97 rfl (lv_at hl 2 rfl) ?_
        refine aM_sizes X I (v := z2) e_z2 (by omega) dX10_isAhead_98 ?_
        refine rj_ge (tgt := 106) X (by omega) (by omega) dX10_isAhead_99 (by decide) (fun c5 => ?_) (fun c5 => ?_)
        · skip
          refine ri_const X (v := 0) dX10_isAhead_106 ?_
          exact rt_i X hr hlk I (by rfl) (by refine ⟨(bI_f ?_).symm, rfl⟩; unfold ahd; omega) dX10_isAhead_107
        · skip
          refine ri_const X (v := 1) dX10_isAhead_102 ?_
          refine lv_goto (tgt := 107) X.1 X.2.1 dX10_isAhead_103 (by decide) ?_
          exact rt_i X hr hlk I (by rfl) (by refine ⟨(bI_t ?_).symm, rfl⟩; unfold ahd; omega) dX10_isAhead_107
    · skip
      refine lv_aload_n X.1 X.2.1 dX10_isAhead_51 rfl (lv_at hl 0 rfl) ?_
      refine gM_model_picks X I tb_701 dX10_isAhead_52 ?_
      refine lv_iload_n X.1 X.2.1 dX10_isAhead_55 rfl (lv_at hl 1 rfl) ?_
      refine aM_picks X I (v := p1) e_p1 (by omega) dX10_isAhead_56 ?_
      refine lv_aload_n X.1 X.2.1 dX10_isAhead_57 rfl (lv_at hl 0 rfl) ?_
      refine gM_model_picks X I tb_701 dX10_isAhead_58 ?_
      refine lv_iload_n X.1 X.2.1 dX10_isAhead_61 rfl (lv_at hl 2 rfl) ?_
      refine aM_picks X I (v := p2) e_p2 (by omega) dX10_isAhead_62 ?_
      refine rj_le (tgt := 70) X (by omega) (by omega) dX10_isAhead_63 (by decide) (fun c6 => ?_) (fun c6 => ?_)
      · skip
        refine ri_const X (v := 0) dX10_isAhead_70 ?_
        exact rt_i X hr hlk I (by rfl) (by refine ⟨(bI_f ?_).symm, rfl⟩; unfold ahd; omega) dX10_isAhead_71
      · skip
        refine ri_const X (v := 1) dX10_isAhead_66 ?_
        refine lv_goto (tgt := 71) X.1 X.2.1 dX10_isAhead_67 (by decide) ?_
        exact rt_i X hr hlk I (by rfl) (by refine ⟨(bI_t ?_).symm, rfl⟩; unfold ahd; omega) dX10_isAhead_71
  · skip
    refine lv_aload_n X.1 X.2.1 dX10_isAhead_15 rfl (lv_at hl 0 rfl) ?_
    refine gM_model_scores X I tb_730 dX10_isAhead_16 ?_
    refine lv_iload_n X.1 X.2.1 dX10_isAhead_19 rfl (lv_at hl 1 rfl) ?_
    refine aM_scores X I (v := s1) e_s1 (by omega) dX10_isAhead_20 ?_
    refine lv_aload_n X.1 X.2.1 dX10_isAhead_21 rfl (lv_at hl 0 rfl) ?_
    refine gM_model_scores X I tb_730 dX10_isAhead_22 ?_
    refine lv_iload_n X.1 X.2.1 dX10_isAhead_25 rfl (lv_at hl 2 rfl) ?_
    refine aM_scores X I (v := s2) e_s2 (by omega) dX10_isAhead_26 ?_
    refine rj_le (tgt := 34) X (by omega) (by omega) dX10_isAhead_27 (by decide) (fun c7 => ?_) (fun c7 => ?_)
    · skip
      refine ri_const X (v := 0) dX10_isAhead_34 ?_
      exact rt_i X hr hlk I (by rfl) (by refine ⟨(bI_f ?_).symm, rfl⟩; unfold ahd; omega) dX10_isAhead_35
    · skip
      refine ri_const X (v := 1) dX10_isAhead_30 ?_
      refine lv_goto (tgt := 35) X.1 X.2.1 dX10_isAhead_31 (by decide) ?_
      exact rt_i X hr hlk I (by rfl) (by refine ⟨(bI_t ?_).symm, rfl⟩; unfold ahd; omega) dX10_isAhead_35

theorem ok_X10_aheadOf : yX10_aheadOf.cls ≠ "java/lang/invoke/MethodHandle" ∧ yX10_aheadOf.cls ≠ "java/lang/invoke/VarHandle" ∧ (parseMethodDescriptor yX10_aheadOf.desc).map (fun d => d.parameters.length) = some 1 := ⟨by decide +kernel, by decide +kernel, by decide +kernel⟩
abbrev po_X10_aheadOf (S : St)  (x : Int) (N_ : Int) (sc : Int → Int) (pk : Int → Int) (nf : Int → Int) : Int → St → Prop := fun r S1 => r = ahoM sc pk nf x N_.toNat ∧ S1 = S
abbrev rm_X10_aheadOf : Room := ({ frames := 1, cells := 0, slots := 0, locals := 22 } : Room)
set_option maxRecDepth 100000 in
set_option maxHeartbeats 4000000 in
theorem k_X10_aheadOf (l : Launch) (G : Ge) (S : St)  (x : Int) (N_ : Int) (sc : Int → Int) (pk : Int → Int) (nf : Int → Int) (e_N_ : S.1 51 0 = N_) (e_sc : ∀ i : Int, S.1 23 i = sc i) (e_pk : ∀ i : Int, S.1 6 i = pk i) (e_nf : ∀ i : Int, S.1 3 i = nf i) (hx : 0 ≤ x ∧ x < N_) (hN : 0 ≤ N_ ∧ N_ ≤ 8) (hsc : ∀ y : Int, 0 ≤ y → y < N_ → -2000 ≤ sc y ∧ sc y ≤ 2000) (hpk : ∀ y : Int, 0 ≤ y → y < N_ → 0 ≤ pk y ∧ pk y ≤ 100000) (hnf : ∀ y : Int, 0 ≤ y → y < N_ → 0 ≤ nf y ∧ nf y ≤ 12) : Ki (KM G) l yX10_aheadOf cX10_aheadOf 4 .int rm_X10_aheadOf [.ref (G.2.2 0), .int (iI x)] S (po_X10_aheadOf S x N_ sc pk nf) := by
  refine K_start (own := "NameSeekerModel") (by decide +kernel) rfl (Nat.le_of_ble_eq_true rfl) ?_
  intro p e s m args below meth c X hr hlk I ls hl
  have hl : lv_has ls 4 [(0, .ref (G.2.2 0)), (1, .int (iI x))] := hl
  refine ri_const X (v := 0) dX10_aheadOf_0 ?_
  refine lv_istore_n (lv' := [(2, .int (iI 0)), (0, .ref (G.2.2 0)), (1, .int (iI x))]) X.1 X.2.1 dX10_aheadOf_1 rfl hl (by decide) rfl (fun ls hl => ?_)
  refine ri_const X (v := 0) dX10_aheadOf_2 ?_
  refine lv_istore_n (lv' := [(3, .int (iI 0)), (2, .int (iI 0)), (0, .ref (G.2.2 0)), (1, .int (iI x))]) X.1 X.2.1 dX10_aheadOf_3 rfl hl (by decide) rfl (fun ls hl => ?_)
  have lp_4 : ∀ (fu_ : Nat) (y : Int), (8 - y).toNat < fu_ → ∀ (hy : 0 ≤ y ∧ y ≤ N_) (H : Heap) (locs : List Loc), In (KM G) s s.heap H locs S → ∀ ls : Array Slot, lv_has ls 4 [(0, .ref (G.2.2 0)), (1, .int (iI x)), (2, .int (iI (ahoM sc pk nf x y.toNat))), (3, .int (iI y))] → W p l e rm_X10_aheadOf s m args below meth c H locs 0 0 (MQ below (QI (KM G) (po_X10_aheadOf S x N_ sc pk nf)) args s 0 0 (KM G).2.2.2) (F0 m 4 ls []) := by
    intro fu_
    induction fu_ with
    | zero => intro y hm; exact absurd hm (by omega)
    | succ fu_ ih_4 =>
      intro y hm_4 hy H locs I ls hl
      refine lv_iload_n X.1 X.2.1 dX10_aheadOf_4 rfl (lv_at hl 3 rfl) ?_
      refine lv_aload_n X.1 X.2.1 dX10_aheadOf_5 rfl (lv_at hl 0 rfl) ?_
      refine gM_model_names X I (v := N_) e_N_ tb_696 dX10_aheadOf_6 ?_
      refine rj_ge (tgt := 46) X (by omega) (by omega) dX10_aheadOf_9 (by decide) (fun c1 => ?_) (fun c1 => ?_)
      · skip
        have e_y : y = N_ := by omega
        refine lv_iload_n X.1 X.2.1 dX10_aheadOf_46 rfl (lv_at hl 2 rfl) ?_
        exact rt_i X hr hlk I rfl (by first | (refine ⟨?_, rfl⟩; (rw [e_y]); done) | (exfalso; omega)) dX10_aheadOf_47
      · skip
        refine lv_iload_n X.1 X.2.1 dX10_aheadOf_12 rfl (lv_at hl 3 rfl) ?_
        refine lv_iload_n X.1 X.2.1 dX10_aheadOf_13 rfl (lv_at hl 1 rfl) ?_
        refine rj_eq (tgt := 40) X (by omega) (by omega) dX10_aheadOf_14 (by decide) (fun c2 => ?_) (fun c2 => ?_)
        · skip
          refine ri_iinc X (k := 3) (v := (y + 1)) (lv' := [(3, .int (iI (y + 1))), (0, .ref (G.2.2 0)), (1, .int (iI x)), (2, .int (iI (ahoM sc pk nf x y.toNat)))]) rfl dX10_aheadOf_40 hl rfl (by decide) rfl (fun ls hl => ?_)
          refine lv_goto (tgt := 4) X.1 X.2.1 dX10_aheadOf_43 (by decide) ?_
          have hl : lv_has ls 4 [(3, .int (iI (y + 1))), (0, .ref (G.2.2 0)), (1, .int (iI x)), (2, .int (iI (ahoM sc pk nf x (y + 1).toNat)))] := by
            have e_ : (ahoM sc pk nf x y.toNat) = (ahoM sc pk nf x (y + 1).toNat) := by first | exact (ahoM_y (by omega) ⟨by omega, by omega, by assumption⟩).symm | exact (ahoM_n (by omega) (fun z => z.1 (by assumption))).symm | exact (ahoM_n (by omega) (fun z => z.2.1 (by assumption))).symm | exact (ahoM_n (by omega) (fun z => absurd z.2.2 (by assumption))).symm
            rw [← e_]; exact hl
          exact ih_4 (y + 1) (by omega) (by omega) _ _ I ls (lv_sub hl [1, 2, 3, 0] rfl)
        · skip
          have hsy := hsc y (by omega) (by omega)
          refine lv_aload_n X.1 X.2.1 dX10_aheadOf_17 rfl (lv_at hl 0 rfl) ?_
          refine gM_model_scores X I tb_730 dX10_aheadOf_18 ?_
          refine lv_iload_n X.1 X.2.1 dX10_aheadOf_21 rfl (lv_at hl 3 rfl) ?_
          refine aM_scores X I (v := (sc y)) (e_sc y) (by omega) dX10_aheadOf_22 ?_
          refine ri_push X (v := (-4)) (by decide) dX10_aheadOf_23 ?_
          refine rj_eq (tgt := 40) X (by omega) (by omega) dX10_aheadOf_25 (by decide) (fun c3 => ?_) (fun c3 => ?_)
          · skip
            refine ri_iinc X (k := 3) (v := (y + 1)) (lv' := [(3, .int (iI (y + 1))), (0, .ref (G.2.2 0)), (1, .int (iI x)), (2, .int (iI (ahoM sc pk nf x y.toNat)))]) rfl dX10_aheadOf_40 hl rfl (by decide) rfl (fun ls hl => ?_)
            refine lv_goto (tgt := 4) X.1 X.2.1 dX10_aheadOf_43 (by decide) ?_
            have hl : lv_has ls 4 [(3, .int (iI (y + 1))), (0, .ref (G.2.2 0)), (1, .int (iI x)), (2, .int (iI (ahoM sc pk nf x (y + 1).toNat)))] := by
              have e_ : (ahoM sc pk nf x y.toNat) = (ahoM sc pk nf x (y + 1).toNat) := by first | exact (ahoM_y (by omega) ⟨by omega, by omega, by assumption⟩).symm | exact (ahoM_n (by omega) (fun z => z.1 (by assumption))).symm | exact (ahoM_n (by omega) (fun z => z.2.1 (by assumption))).symm | exact (ahoM_n (by omega) (fun z => absurd z.2.2 (by assumption))).symm
              rw [← e_]; exact hl
            exact ih_4 (y + 1) (by omega) (by omega) _ _ I ls (lv_sub hl [1, 2, 3, 0] rfl)
          · skip
            refine lv_aload_n X.1 X.2.1 dX10_aheadOf_28 rfl (lv_at hl 0 rfl) ?_
            refine lv_iload_n X.1 X.2.1 dX10_aheadOf_29 rfl (lv_at hl 3 rfl) ?_
            refine lv_iload_n X.1 X.2.1 dX10_aheadOf_30 rfl (lv_at hl 1 rfl) ?_
            refine cl_i I (runV (As := [.int (iI y), .int (iI x)]) (rest := []) X (k_X10_isAhead l G S  y x (sc y) (sc x) (pk y) (pk x) (nf y) (nf x) (e_sc y) (e_sc x) (e_pk y) (e_pk x) (e_nf y) (e_nf x) (by omega) (by omega) (hsc _ (by omega) (by omega)) (hsc _ (by omega) (by omega)) (hpk _ (by omega) (by omega)) (hpk _ (by omega) (by omega)) (hnf _ (by omega) (by omega)) (hnf _ (by omega) (by omega))) (gdC tb_975 (gdC tb_977 (gdC tb_31 (gdC tb_48 (gdC tb_978 gdB))))) ⟨ok_X10_isAhead, ⟨Nat.le_of_ble_eq_true rfl, Nat.le_of_ble_eq_true rfl⟩, rfl, rfl⟩ (PreV.of (C := RX10) (T := TX10) (N := 41) I (atM_model) rfl) rfl hl.1 rfl (Nat.le_of_ble_eq_true rfl) dX10_aheadOf_31 ⟨Nat.zero_le _, Nat.zero_le _⟩) (fun r4 S5 H locs q6 I => ?_)
            obtain ⟨e1_, e2_⟩ := q6
            rw [e2_] at I
            rw [e1_]
            clear e1_ e2_
            rcases Decidable.em (ahd (sc y) (sc x) (pk y) (pk x) (nf y) (nf x) y x) with b7 | b7
            · rw [bI_t b7]
              refine rz_eq (tgt := 40) X (by omega) dX10_aheadOf_34 (by decide) (fun c8 => absurd c8 (by decide)) (fun _ => ?_)
              refine ri_iinc X (k := 2) (v := ((ahoM sc pk nf x y.toNat) + 1)) (lv' := [(2, .int (iI ((ahoM sc pk nf x y.toNat) + 1))), (0, .ref (G.2.2 0)), (1, .int (iI x)), (3, .int (iI y))]) rfl dX10_aheadOf_37 hl rfl (by decide) rfl (fun ls hl => ?_)
              refine ri_iinc X (k := 3) (v := (y + 1)) (lv' := [(3, .int (iI (y + 1))), (2, .int (iI ((ahoM sc pk nf x y.toNat) + 1))), (0, .ref (G.2.2 0)), (1, .int (iI x))]) rfl dX10_aheadOf_40 hl rfl (by decide) rfl (fun ls hl => ?_)
              refine lv_goto (tgt := 4) X.1 X.2.1 dX10_aheadOf_43 (by decide) ?_
              have hl : lv_has ls 4 [(3, .int (iI (y + 1))), (2, .int (iI (ahoM sc pk nf x (y + 1).toNat))), (0, .ref (G.2.2 0)), (1, .int (iI x))] := by
                have e_ : ((ahoM sc pk nf x y.toNat) + 1) = (ahoM sc pk nf x (y + 1).toNat) := by first | exact (ahoM_y (by omega) ⟨by omega, by omega, by assumption⟩).symm | exact (ahoM_n (by omega) (fun z => z.1 (by assumption))).symm | exact (ahoM_n (by omega) (fun z => z.2.1 (by assumption))).symm | exact (ahoM_n (by omega) (fun z => absurd z.2.2 (by assumption))).symm
                rw [← e_]; exact hl
              exact ih_4 (y + 1) (by omega) (by omega) _ _ I ls (lv_sub hl [2, 3, 1, 0] rfl)
            · rw [bI_f b7]
              refine rz_eq (tgt := 40) X (by omega) dX10_aheadOf_34 (by decide) (fun _ => ?_) (fun c9 => absurd c9 (fun q => q (by decide)))
              refine ri_iinc X (k := 3) (v := (y + 1)) (lv' := [(3, .int (iI (y + 1))), (0, .ref (G.2.2 0)), (1, .int (iI x)), (2, .int (iI (ahoM sc pk nf x y.toNat)))]) rfl dX10_aheadOf_40 hl rfl (by decide) rfl (fun ls hl => ?_)
              refine lv_goto (tgt := 4) X.1 X.2.1 dX10_aheadOf_43 (by decide) ?_
              have hl : lv_has ls 4 [(3, .int (iI (y + 1))), (0, .ref (G.2.2 0)), (1, .int (iI x)), (2, .int (iI (ahoM sc pk nf x (y + 1).toNat)))] := by
                have e_ : (ahoM sc pk nf x y.toNat) = (ahoM sc pk nf x (y + 1).toNat) := by first | exact (ahoM_y (by omega) ⟨by omega, by omega, by assumption⟩).symm | exact (ahoM_n (by omega) (fun z => z.1 (by assumption))).symm | exact (ahoM_n (by omega) (fun z => z.2.1 (by assumption))).symm | exact (ahoM_n (by omega) (fun z => absurd z.2.2 (by assumption))).symm
                rw [← e_]; exact hl
              exact ih_4 (y + 1) (by omega) (by omega) _ _ I ls (lv_sub hl [1, 2, 3, 0] rfl)
  have hl : lv_has ls 4 [(3, .int (iI 0)), (2, .int (iI (ahoM sc pk nf x (0 : Int).toNat))), (0, .ref (G.2.2 0)), (1, .int (iI x))] := by
    have e_ : 0 = (ahoM sc pk nf x (0 : Int).toNat) := rfl
    rw [← e_]; exact hl
  exact lp_4 (9) 0 (by omega) (by omega) _ _ I ls (lv_sub hl [2, 3, 1, 0] rfl)

theorem ok_X10_list : yX10_list.cls ≠ "java/lang/invoke/MethodHandle" ∧ yX10_list.cls ≠ "java/lang/invoke/VarHandle" ∧ (parseMethodDescriptor yX10_list.desc).map (fun d => d.parameters.length) = some 1 := ⟨by decide +kernel, by decide +kernel, by decide +kernel⟩
abbrev po_X10_list (S : St)  (x : Int) : Int → St → Prop := fun r S1 => (x < -1 ∧ r = -1 ∧ S1 = S) ∨ (-1 ≤ x ∧ S1.2 = S.2 ∧ ∃ F : Nat → Int → Int, ((x = -1 ∧ askP S.1 (cdv (S.1 12) (S.1 53 0).toNat) F) ∨ (0 ≤ x ∧ F = S.1)) ∧ (∀ (c_ : Nat) (i : Int), ¬ (20 ≤ c_ ∧ c_ ≤ 22) → ¬ c_ = 62 → ¬ c_ = 63 → S1.1 c_ i = skMA F (F 51 0).toNat c_ i) ∧ ((x = -1 ∧ r = nnc (S1.1 23) (F 51 0).toNat) ∨ (0 ≤ x ∧ lsP (S1.1 23) (F 6) (F 3) (F 51 0) x r)))
abbrev rm_X10_list : Room := ({ frames := 6, cells := 0, slots := 0, locals := 135 } : Room)
set_option maxRecDepth 100000 in
set_option maxHeartbeats 4000000 in
theorem k_X10_list (l : Launch) (G : Ge) (S : St)  (x : Int)  (hx : -2147483648 ≤ x ∧ x < 2147483648) (hI : MI S.1) : Ki (KM G) l yX10_list cX10_list 4 .int rm_X10_list [.ref (G.2.2 0), .int (iI x)] S (po_X10_list S x) := by
  refine K_start (own := "NameSeekerModel") (by decide +kernel) rfl (Nat.le_of_ble_eq_true rfl) ?_
  intro p e s m args below meth c X hr hlk I ls hl
  have hl : lv_has ls 4 [(0, .ref (G.2.2 0)), (1, .int (iI x))] := hl
  have hI0 := hI
  obtain ⟨ht, hc, hn, hnm, hw, hwd, hkp, hcn, has, hkn⟩ := hI
  refine lv_iload_n X.1 X.2.1 dX10_list_0 rfl (lv_at hl 1 rfl) ?_
  refine ri_const X (v := (-1)) dX10_list_1 ?_
  refine rj_ge (tgt := 7) X (by omega) (by omega) dX10_list_2 (by decide) (fun c1 => ?_) (fun c1 => ?_)
  · skip
    refine lv_iload_n X.1 X.2.1 dX10_list_7 rfl (lv_at hl 1 rfl) ?_
    refine ri_const X (v := (-1)) dX10_list_8 ?_
    refine rj_ne (tgt := 67) X (by omega) (by omega) dX10_list_9 (by decide) (fun c2 => ?_) (fun c2 => ?_)
    · skip
      obtain ⟨F, hF⟩ : ∃ F : Nat → Int → Int, F = S.1 := ⟨_, rfl⟩
      rw [show S = (F, S.2) from by rw [hF]] at I
      have hFP : (x = -1 ∧ askP S.1 (cdv (S.1 12) (S.1 53 0).toNat) F) ∨ (0 ≤ x ∧ F = S.1) := Or.inr ⟨by omega, hF⟩
      have hIF : MI F := by rw [hF]; exact hI0
      obtain ⟨ht, hc, hn, hnm, hw, hwd, hkp, hcn, has, hkn⟩ := hIF
      have hw0 := hw 0 (by omega) (by omega)
      have hw1 := hw 1 (by omega) (by omega)
      have hw2 := hw 2 (by omega) (by omega)
      have hKN : KN F := fun q a b => by have := hkn q a b; omega
      have hag : 0 ≤ F 57 0 ∧ F 57 0 ≤ 100000 := by omega
      refine ri_const X (v := 0) dX10_list_67 ?_
      refine lv_istore_n (lv' := [(2, .int (iI 0)), (0, .ref (G.2.2 0)), (1, .int (iI x))]) X.1 X.2.1 dX10_list_68 rfl hl (by decide) rfl (fun ls hl => ?_)
      refine ri_const X (v := 0) dX10_list_69 ?_
      refine lv_istore_n (lv' := [(3, .int (iI 0)), (2, .int (iI 0)), (0, .ref (G.2.2 0)), (1, .int (iI x))]) X.1 X.2.1 dX10_list_70 rfl hl (by decide) rfl (fun ls hl => ?_)
      have lp_71 : ∀ (fu_ : Nat) (y : Int) (Z : Nat → Int → Int), (8 - y).toNat < fu_ → ∀ (hy : 0 ≤ y ∧ y ≤ F 51 0) (hW : ∀ (c_ : Nat) (i : Int), ¬ (20 ≤ c_ ∧ c_ ≤ 22) → ¬ c_ = 62 → ¬ c_ = 63 → Z c_ i = skMA F y.toNat c_ i) (hfr : ∀ (c_ : Nat) (i : Int), ¬ (16 ≤ c_ ∧ c_ ≤ 23) → ¬ c_ = 58 → ¬ c_ = 59 → ¬ c_ = 62 → ¬ c_ = 63 → Z c_ i = F c_ i) (hKN : KN Z) (hsr : ∀ j : Int, 0 ≤ j → j < y → -2000 ≤ Z 23 j ∧ Z 23 j ≤ 2000) (H : Heap) (locs : List Loc), In (KM G) s s.heap H locs (Z, S.2) → ∀ ls : Array Slot, lv_has ls 4 [(0, .ref (G.2.2 0)), (1, .int (iI x)), (2, .int (iI (nnc (Z 23) y.toNat))), (3, .int (iI y))] → W p l e rm_X10_list s m args below meth c H locs 0 0 (MQ below (QI (KM G) (po_X10_list S x)) args s 0 0 (KM G).2.2.2) (F0 m 71 ls []) := by
        intro fu_
        induction fu_ with
        | zero => intro y Z hm; exact absurd hm (by omega)
        | succ fu_ ih_71 =>
          intro y Z hm_71 hy hW hfr hKN hsr H locs I ls hl
          refine lv_iload_n X.1 X.2.1 dX10_list_71 rfl (lv_at hl 3 rfl) ?_
          refine lv_aload_n X.1 X.2.1 dX10_list_72 rfl (lv_at hl 0 rfl) ?_
          refine gM_model_names X I (v := (F 51 0)) (hfr 51 0 (by omega) (by omega) (by omega) (by omega) (by omega)) tb_696 dX10_list_73 ?_
          refine rj_ge (tgt := 123) X (by omega) (by omega) dX10_list_76 (by decide) (fun c3 => ?_) (fun c3 => ?_)
          · skip
            have e_y : y = F 51 0 := by omega
            rw [e_y] at hW hsr
            have hsc := hsr
            have hpk : ∀ j : Int, 0 ≤ j → j < F 51 0 → 0 ≤ F 6 j ∧ F 6 j ≤ 100000 := fun j a b => (hnm j a b).2.2.2.1
            have hnf : ∀ j : Int, 0 ≤ j → j < F 51 0 → 0 ≤ F 3 j ∧ F 3 j ≤ 12 := fun j a b => by have := (hnm j a b).1; omega
            refine lv_iload_n X.1 X.2.1 dX10_list_123 rfl (lv_at hl 1 rfl) ?_
            refine ri_const X (v := (-1)) dX10_list_124 ?_
            refine rj_ne (tgt := 130) X (by omega) (by omega) dX10_list_125 (by decide) (fun c4 => ?_) (fun c4 => ?_)
            · skip
              refine ri_const X (v := 0) dX10_list_130 ?_
              refine lv_istore_n (lv' := [(3, .int (iI 0)), (0, .ref (G.2.2 0)), (1, .int (iI x)), (2, .int (iI (nnc (Z 23) y.toNat)))]) X.1 X.2.1 dX10_list_131 rfl hl (by decide) rfl (fun ls hl => ?_)
              have lp_132 : ∀ (fu_ : Nat) (q : Int), (8 - q).toNat < fu_ → ∀ (hq : 0 ≤ q ∧ q ≤ F 51 0) (hno : ∀ j : Int, 0 ≤ j → j < q → ¬ (¬ Z 23 j = -4 ∧ ahoM (Z 23) (F 6) (F 3) j (F 51 0).toNat = x)) (H : Heap) (locs : List Loc), In (KM G) s s.heap H locs (Z, S.2) → ∀ ls : Array Slot, lv_has ls 4 [(0, .ref (G.2.2 0)), (1, .int (iI x)), (2, .int (iI (nnc (Z 23) y.toNat))), (3, .int (iI q))] → W p l e rm_X10_list s m args below meth c H locs 0 0 (MQ below (QI (KM G) (po_X10_list S x)) args s 0 0 (KM G).2.2.2) (F0 m 132 ls []) := by
                intro fu_
                induction fu_ with
                | zero => intro q hm; exact absurd hm (by omega)
                | succ fu_ ih_132 =>
                  intro q hm_132 hq hno H locs I ls hl
                  refine lv_iload_n X.1 X.2.1 dX10_list_132 rfl (lv_at hl 3 rfl) ?_
                  refine lv_aload_n X.1 X.2.1 dX10_list_133 rfl (lv_at hl 0 rfl) ?_
                  refine gM_model_names X I (v := (F 51 0)) (hfr 51 0 (by omega) (by omega) (by omega) (by omega) (by omega)) tb_696 dX10_list_134 ?_
                  refine rj_ge (tgt := 168) X (by omega) (by omega) dX10_list_137 (by decide) (fun c5 => ?_) (fun c5 => ?_)
                  · skip
                    refine ri_push X (v := (-4)) (by decide) dX10_list_168 ?_
                    exact rt_i X hr hlk I rfl (by exact Or.inr ⟨by omega, rfl, F, hFP, hW, Or.inr ⟨by omega, Or.inr ⟨rfl, fun j a b => hno j a (by omega)⟩⟩⟩) dX10_list_170
                  · skip
                    have hsq := hsr q (by omega) (by omega)
                    refine lv_aload_n X.1 X.2.1 dX10_list_140 rfl (lv_at hl 0 rfl) ?_
                    refine gM_model_scores X I tb_730 dX10_list_141 ?_
                    refine lv_iload_n X.1 X.2.1 dX10_list_144 rfl (lv_at hl 3 rfl) ?_
                    refine aM_scores X I (v := (Z 23 q)) rfl (by omega) dX10_list_145 ?_
                    refine ri_push X (v := (-4)) (by decide) dX10_list_146 ?_
                    refine rj_eq (tgt := 162) X (by omega) (by omega) dX10_list_148 (by decide) (fun c6 => ?_) (fun c6 => ?_)
                    · skip
                      refine ri_iinc X (k := 3) (v := (q + 1)) (lv' := [(3, .int (iI (q + 1))), (0, .ref (G.2.2 0)), (1, .int (iI x)), (2, .int (iI (nnc (Z 23) y.toNat)))]) rfl dX10_list_162 hl rfl (by decide) rfl (fun ls hl => ?_)
                      refine lv_goto (tgt := 132) X.1 X.2.1 dX10_list_165 (by decide) ?_
                      exact ih_132 (q + 1) (by omega) (by omega) (fun j h1 h2 => if z : j = q then (by rw [z]; first | exact fun v => v.1 (by assumption) | exact fun v => absurd v.2 (by assumption)) else hno j h1 (by omega)) _ _ I ls (lv_sub hl [1, 2, 3, 0] rfl)
                    · skip
                      refine lv_aload_n X.1 X.2.1 dX10_list_151 rfl (lv_at hl 0 rfl) ?_
                      refine lv_iload_n X.1 X.2.1 dX10_list_152 rfl (lv_at hl 3 rfl) ?_
                      refine cl_i I (runV (As := [.int (iI q)]) (rest := []) X (k_X10_aheadOf l G (Z, S.2)  q (F 51 0) (Z 23) (F 6) (F 3) (hfr 51 0 (by omega) (by omega) (by omega) (by omega) (by omega)) (fun i_ => rfl) (fun i_ => (hfr 6 i_ (by omega) (by omega) (by omega) (by omega) (by omega))) (fun i_ => (hfr 3 i_ (by omega) (by omega) (by omega) (by omega) (by omega))) (by omega) (by omega) hsc hpk hnf) (gdC tb_971 (gdC tb_973 (gdC tb_30 (gdC tb_48 (gdC tb_974 gdB))))) ⟨ok_X10_aheadOf, ⟨Nat.le_of_ble_eq_true rfl, Nat.le_of_ble_eq_true rfl⟩, rfl, rfl⟩ (PreV.of (C := RX10) (T := TX10) (N := 41) I (atM_model) rfl) rfl hl.1 rfl (Nat.le_of_ble_eq_true rfl) dX10_list_153 ⟨Nat.zero_le _, Nat.zero_le _⟩) (fun r7 S8 H locs q9 I => ?_)
                      obtain ⟨e1_, e2_⟩ := q9
                      rw [e2_] at I
                      rw [e1_]
                      clear e1_ e2_
                      have t10 := ahoM_r (Z 23) (F 6) (F 3) q ((F 51 0)).toNat
                      refine lv_iload_n X.1 X.2.1 dX10_list_156 rfl (lv_at hl 1 rfl) ?_
                      refine rj_ne (tgt := 162) X (by omega) (by omega) dX10_list_157 (by decide) (fun c11 => ?_) (fun c11 => ?_)
                      · skip
                        refine ri_iinc X (k := 3) (v := (q + 1)) (lv' := [(3, .int (iI (q + 1))), (0, .ref (G.2.2 0)), (1, .int (iI x)), (2, .int (iI (nnc (Z 23) y.toNat)))]) rfl dX10_list_162 hl rfl (by decide) rfl (fun ls hl => ?_)
                        refine lv_goto (tgt := 132) X.1 X.2.1 dX10_list_165 (by decide) ?_
                        exact ih_132 (q + 1) (by omega) (by omega) (fun j h1 h2 => if z : j = q then (by rw [z]; first | exact fun v => v.1 (by assumption) | exact fun v => absurd v.2 (by assumption)) else hno j h1 (by omega)) _ _ I ls (lv_sub hl [1, 2, 3, 0] rfl)
                      · skip
                        refine lv_iload_n X.1 X.2.1 dX10_list_160 rfl (lv_at hl 3 rfl) ?_
                        exact rt_i X hr hlk I rfl (by exact Or.inr ⟨by omega, rfl, F, hFP, hW, Or.inr ⟨by omega, Or.inl ⟨q, by omega, by assumption, by assumption, rfl, hno⟩⟩⟩) dX10_list_161
              exact lp_132 (9) 0 (by omega) (by omega) (fun j h1 h2 => absurd h2 (by omega)) _ _ I ls (lv_sub hl [1, 2, 3, 0] rfl)
            · skip
              refine lv_iload_n X.1 X.2.1 dX10_list_128 rfl (lv_at hl 2 rfl) ?_
              exact rt_i X hr hlk I rfl (by exact Or.inr ⟨by omega, rfl, F, hFP, hW, Or.inl ⟨by omega, by rw [e_y]⟩⟩) dX10_list_129
          · skip
            have hny := hnm y (by omega) (by omega)
            obtain ⟨hn1, hn2, hn3, hn4, hn5⟩ := hny
            have hcr := cdv_r (f := F 12) (F 53 0).toNat (by omega) (fun i h1 h2 => hwd.2 i h1 (by omega))
            refine lv_aload_n X.1 X.2.1 dX10_list_79 rfl (lv_at hl 0 rfl) ?_
            refine gM_model_scores X I tb_730 dX10_list_80 ?_
            refine lv_iload_n X.1 X.2.1 dX10_list_83 rfl (lv_at hl 3 rfl) ?_
            refine lv_aload_n X.1 X.2.1 dX10_list_84 rfl (lv_at hl 0 rfl) ?_
            refine lv_iload_n X.1 X.2.1 dX10_list_85 rfl (lv_at hl 3 rfl) ?_
            refine cl_i I (runV (As := [.int (iI y)]) (rest := [.int (iI y), .ref (G.2.2 23)]) X (k_X10_passing l G (Z, S.2)  y (F 3 y) (F 2) (F 53 0) (F 12) (hfr 3 y (by omega) (by omega) (by omega) (by omega) (by omega)) (fun i_ => (hfr 2 i_ (by omega) (by omega) (by omega) (by omega) (by omega))) (hfr 53 0 (by omega) (by omega) (by omega) (by omega) (by omega)) (fun i_ => (hfr 12 i_ (by omega) (by omega) (by omega) (by omega) (by omega))) (by omega) hn1 hn5 hwd.1 hwd.2) (gdC tb_963 (gdC tb_965 (gdC tb_28 (gdC tb_48 (gdC tb_966 gdB))))) ⟨ok_X10_passing, ⟨Nat.le_of_ble_eq_true rfl, Nat.le_of_ble_eq_true rfl⟩, rfl, rfl⟩ (PreV.of (C := RX10) (T := TX10) (N := 41) I (atM_model) rfl) rfl hl.1 rfl (Nat.le_of_ble_eq_true rfl) dX10_list_86 ⟨Nat.zero_le _, Nat.zero_le _⟩) (fun r12 S13 H locs q14 I => ?_)
            obtain ⟨e1_, e2_⟩ := q14
            rw [e2_] at I
            rw [e1_]
            clear e1_ e2_
            rcases Decidable.em (psL (fun z_ => (F 2) (12 * y + z_)) ((F 3 y)).toNat (F 12) ((F 53 0)).toNat = true) with b15 | b15
            · rw [bI_t b15]
              refine rz_eq (tgt := 100) X (by omega) dX10_list_89 (by decide) (fun c16 => absurd c16 (by decide)) (fun _ => ?_)
              refine lv_aload_n X.1 X.2.1 dX10_list_92 rfl (lv_at hl 0 rfl) ?_
              refine lv_iload_n X.1 X.2.1 dX10_list_93 rfl (lv_at hl 3 rfl) ?_
              refine cl_i I (runV (As := [.int (iI y)]) (rest := [.int (iI y), .ref (G.2.2 23)]) X (k_X10_sought l G (Z, S.2)  y (F 5 y) (F 57 0) (F 53 0) (F 12) (F 2) (F 4 y) (F 3 y) (F 7 0) (F 7 1) (F 7 2) (hfr 5 y (by omega) (by omega) (by omega) (by omega) (by omega)) (hfr 57 0 (by omega) (by omega) (by omega) (by omega) (by omega)) (hfr 53 0 (by omega) (by omega) (by omega) (by omega) (by omega)) (fun i_ => (hfr 12 i_ (by omega) (by omega) (by omega) (by omega) (by omega))) (fun i_ => (hfr 2 i_ (by omega) (by omega) (by omega) (by omega) (by omega))) (hfr 4 y (by omega) (by omega) (by omega) (by omega) (by omega)) (hfr 3 y (by omega) (by omega) (by omega) (by omega) (by omega)) (hfr 7 0 (by omega) (by omega) (by omega) (by omega) (by omega)) (hfr 7 1 (by omega) (by omega) (by omega) (by omega) (by omega)) (hfr 7 2 (by omega) (by omega) (by omega) (by omega) (by omega)) (by omega) hn3 hag hwd hn2 hn1 hn5 hw0 hw1 hw2 hKN) (gdC tb_920 (gdC tb_922 (gdC tb_20 (gdC tb_48 (gdC tb_923 gdB))))) ⟨ok_X10_sought, ⟨Nat.le_of_ble_eq_true rfl, Nat.le_of_ble_eq_true rfl⟩, rfl, rfl⟩ (PreV.of (C := RX10) (T := TX10) (N := 41) I (atM_model) rfl) rfl hl.1 rfl (Nat.le_of_ble_eq_true rfl) dX10_list_94 ⟨Nat.zero_le _, Nat.zero_le _⟩) (fun r17 S18 H locs q19 I => ?_)
              obtain ⟨hK2, hKf, hKr⟩ := q19
              obtain ⟨V1, V2⟩ := S18
              dsimp only at hK2 hKf hKr
              subst hK2
              rw [hKr]
              have hrs := resS_r (s := fun z_ => F 2 (12 * y + z_)) (f := F 12) (kd := F 4 y) (n := F 3 y) (m := F 53 0) hw0 hw1 hw2 (by omega) (by omega)
              have hkr := skM_r (di := F 5 y) (ag := F 57 0) (cd := cdv (F 12) (F 53 0).toNat) hKN hrs
              have hKV : KN V1 := KN_sk hKN hn3 hag hcr hrs hKf
              refine lv_goto (tgt := 102) X.1 X.2.1 dX10_list_97 (by decide) ?_
              refine qM_scores X I (by omega) dX10_list_102 (fun H locs I => ?_)
              have I : In (KM G) s s.heap H locs ((ua V1 23 y (skM Z (F 5 y) (F 57 0) (cdv (F 12) ((F 53 0)).toNat) (resS (fun z_ => (F 2) (12 * y + z_)) (F 12) (F 4 y) (F 7 0) (F 7 1) (F 7 2) (F 3 y) (F 53 0)).2.1).2), S.2) := I
              refine lv_aload_n X.1 X.2.1 dX10_list_103 rfl (lv_at hl 0 rfl) ?_
              refine gM_model_scores X I tb_730 dX10_list_104 ?_
              refine lv_iload_n X.1 X.2.1 dX10_list_107 rfl (lv_at hl 3 rfl) ?_
              refine aM_scores X I (v := (skM Z (F 5 y) (F 57 0) (cdv (F 12) ((F 53 0)).toNat) (resS (fun z_ => (F 2) (12 * y + z_)) (F 12) (F 4 y) (F 7 0) (F 7 1) (F 7 2) (F 3 y) (F 53 0)).2.1).2) (by show (ua V1 23 y (skM Z (F 5 y) (F 57 0) (cdv (F 12) ((F 53 0)).toNat) (resS (fun z_ => (F 2) (12 * y + z_)) (F 12) (F 4 y) (F 7 0) (F 7 1) (F 7 2) (F 3 y) (F 53 0)).2.1).2) 23 y = _; rw [ua_eq]) (by omega) dX10_list_108 ?_
              refine ri_push X (v := (-4)) (by decide) dX10_list_109 ?_
              refine rj_eq (tgt := 117) X (by omega) (by omega) dX10_list_111 (by decide) (fun c20 => ?_) (fun c20 => ?_)
              · skip
                refine ri_iinc X (k := 3) (v := (y + 1)) (lv' := [(3, .int (iI (y + 1))), (0, .ref (G.2.2 0)), (1, .int (iI x)), (2, .int (iI (nnc (Z 23) y.toNat)))]) rfl dX10_list_117 hl rfl (by decide) rfl (fun ls hl => ?_)
                refine lv_goto (tgt := 71) X.1 X.2.1 dX10_list_120 (by decide) ?_
                have hl : lv_has ls 4 [(3, .int (iI (y + 1))), (0, .ref (G.2.2 0)), (1, .int (iI x)), (2, .int (iI (nnc ((ua V1 23 y (skM Z (F 5 y) (F 57 0) (cdv (F 12) ((F 53 0)).toNat) (resS (fun z_ => (F 2) (12 * y + z_)) (F 12) (F 4 y) (F 7 0) (F 7 1) (F 7 2) (F 3 y) (F 53 0)).2.1).2) 23) (y + 1).toNat)))] := by
                  have e_ : (nnc (Z 23) y.toNat) = (nnc ((ua V1 23 y (skM Z (F 5 y) (F 57 0) (cdv (F 12) ((F 53 0)).toNat) (resS (fun z_ => (F 2) (12 * y + z_)) (F 12) (F 4 y) (F 7 0) (F 7 1) (F 7 2) (F 3 y) (F 53 0)).2.1).2) 23) (y + 1).toNat) := by first | exact nnc_p (by omega) (by assumption) (fun j a b => by first | exact (hKf 23 j (by omega) (by omega) (by omega)).trans (skM_fr (by omega) (by omega) (by omega)) | rfl) | exact nnc_m (by omega) (by assumption) (fun j a b => by first | exact (hKf 23 j (by omega) (by omega) (by omega)).trans (skM_fr (by omega) (by omega) (by omega)) | rfl)
                  rw [← e_]; exact hl
                exact ih_71 (y + 1) (ua V1 23 y (skM Z (F 5 y) (F 57 0) (cdv (F 12) ((F 53 0)).toNat) (resS (fun z_ => (F 2) (12 * y + z_)) (F 12) (F 4 y) (F 7 0) (F 7 1) (F 7 2) (F 3 y) (F 53 0)).2.1).2) (by omega) (by omega) (by first | exact skMA_y (by omega) hW (by assumption) hKf | exact skMA_n (by omega) hW (by assumption)) (fun c_ i h1 h2 h3 h4 h5 => by first | (rw [ua_nc (by omega)]; exact hfr c_ i h1 h2 h3 h4 h5) | (rw [ua_nc (by omega)]; exact ((hKf c_ i (by omega) h4 h5).trans (skM_fr (by omega) h2 h3)).trans (hfr c_ i h1 h2 h3 h4 h5))) (by first | exact KN_23 hKV | exact KN_23 hKN) (fun j h1 h2 => by
      rw [ua_at]
      by_cases q : j = y
      · rw [if_pos ⟨rfl, q⟩]; omega
      · rw [if_neg (by omega)]; first | exact hsr j h1 (by omega) | (rw [hKf 23 j (by omega) (by omega) (by omega), skM_fr (by omega) (by omega) (by omega)]; exact hsr j h1 (by omega))) _ _ I ls (lv_sub hl [1, 2, 3, 0] rfl)
              · skip
                refine ri_iinc X (k := 2) (v := ((nnc (Z 23) y.toNat) + 1)) (lv' := [(2, .int (iI ((nnc (Z 23) y.toNat) + 1))), (0, .ref (G.2.2 0)), (1, .int (iI x)), (3, .int (iI y))]) rfl dX10_list_114 hl rfl (by decide) rfl (fun ls hl => ?_)
                refine ri_iinc X (k := 3) (v := (y + 1)) (lv' := [(3, .int (iI (y + 1))), (2, .int (iI ((nnc (Z 23) y.toNat) + 1))), (0, .ref (G.2.2 0)), (1, .int (iI x))]) rfl dX10_list_117 hl rfl (by decide) rfl (fun ls hl => ?_)
                refine lv_goto (tgt := 71) X.1 X.2.1 dX10_list_120 (by decide) ?_
                have hl : lv_has ls 4 [(3, .int (iI (y + 1))), (2, .int (iI (nnc ((ua V1 23 y (skM Z (F 5 y) (F 57 0) (cdv (F 12) ((F 53 0)).toNat) (resS (fun z_ => (F 2) (12 * y + z_)) (F 12) (F 4 y) (F 7 0) (F 7 1) (F 7 2) (F 3 y) (F 53 0)).2.1).2) 23) (y + 1).toNat))), (0, .ref (G.2.2 0)), (1, .int (iI x))] := by
                  have e_ : ((nnc (Z 23) y.toNat) + 1) = (nnc ((ua V1 23 y (skM Z (F 5 y) (F 57 0) (cdv (F 12) ((F 53 0)).toNat) (resS (fun z_ => (F 2) (12 * y + z_)) (F 12) (F 4 y) (F 7 0) (F 7 1) (F 7 2) (F 3 y) (F 53 0)).2.1).2) 23) (y + 1).toNat) := by first | exact nnc_p (by omega) (by assumption) (fun j a b => by first | exact (hKf 23 j (by omega) (by omega) (by omega)).trans (skM_fr (by omega) (by omega) (by omega)) | rfl) | exact nnc_m (by omega) (by assumption) (fun j a b => by first | exact (hKf 23 j (by omega) (by omega) (by omega)).trans (skM_fr (by omega) (by omega) (by omega)) | rfl)
                  rw [← e_]; exact hl
                exact ih_71 (y + 1) (ua V1 23 y (skM Z (F 5 y) (F 57 0) (cdv (F 12) ((F 53 0)).toNat) (resS (fun z_ => (F 2) (12 * y + z_)) (F 12) (F 4 y) (F 7 0) (F 7 1) (F 7 2) (F 3 y) (F 53 0)).2.1).2) (by omega) (by omega) (by first | exact skMA_y (by omega) hW (by assumption) hKf | exact skMA_n (by omega) hW (by assumption)) (fun c_ i h1 h2 h3 h4 h5 => by first | (rw [ua_nc (by omega)]; exact hfr c_ i h1 h2 h3 h4 h5) | (rw [ua_nc (by omega)]; exact ((hKf c_ i (by omega) h4 h5).trans (skM_fr (by omega) h2 h3)).trans (hfr c_ i h1 h2 h3 h4 h5))) (by first | exact KN_23 hKV | exact KN_23 hKN) (fun j h1 h2 => by
      rw [ua_at]
      by_cases q : j = y
      · rw [if_pos ⟨rfl, q⟩]; omega
      · rw [if_neg (by omega)]; first | exact hsr j h1 (by omega) | (rw [hKf 23 j (by omega) (by omega) (by omega), skM_fr (by omega) (by omega) (by omega)]; exact hsr j h1 (by omega))) _ _ I ls (lv_sub hl [2, 3, 1, 0] rfl)
            · rw [bI_f b15]
              refine rz_eq (tgt := 100) X (by omega) dX10_list_89 (by decide) (fun _ => ?_) (fun c21 => absurd c21 (fun q => q (by decide)))
              refine ri_push X (v := (-4)) (by decide) dX10_list_100 ?_
              refine qM_scores X I (by omega) dX10_list_102 (fun H locs I => ?_)
              have I : In (KM G) s s.heap H locs ((ua Z 23 y (-4)), S.2) := I
              refine lv_aload_n X.1 X.2.1 dX10_list_103 rfl (lv_at hl 0 rfl) ?_
              refine gM_model_scores X I tb_730 dX10_list_104 ?_
              refine lv_iload_n X.1 X.2.1 dX10_list_107 rfl (lv_at hl 3 rfl) ?_
              refine aM_scores X I (v := (-4)) (by show (ua Z 23 y (-4)) 23 y = _; rw [ua_eq]) (by omega) dX10_list_108 ?_
              refine ri_push X (v := (-4)) (by decide) dX10_list_109 ?_
              refine rj_eq (tgt := 117) X (by omega) (by omega) dX10_list_111 (by decide) (fun _ => ?_) (fun c22 => absurd c22 (fun q => q (by decide)))
              refine ri_iinc X (k := 3) (v := (y + 1)) (lv' := [(3, .int (iI (y + 1))), (0, .ref (G.2.2 0)), (1, .int (iI x)), (2, .int (iI (nnc (Z 23) y.toNat)))]) rfl dX10_list_117 hl rfl (by decide) rfl (fun ls hl => ?_)
              refine lv_goto (tgt := 71) X.1 X.2.1 dX10_list_120 (by decide) ?_
              have hl : lv_has ls 4 [(3, .int (iI (y + 1))), (0, .ref (G.2.2 0)), (1, .int (iI x)), (2, .int (iI (nnc ((ua Z 23 y (-4)) 23) (y + 1).toNat)))] := by
                have e_ : (nnc (Z 23) y.toNat) = (nnc ((ua Z 23 y (-4)) 23) (y + 1).toNat) := by first | exact nnc_p (by omega) (by assumption) (fun j a b => by first | exact (hKf 23 j (by omega) (by omega) (by omega)).trans (skM_fr (by omega) (by omega) (by omega)) | rfl) | exact nnc_m (by omega) (by assumption) (fun j a b => by first | exact (hKf 23 j (by omega) (by omega) (by omega)).trans (skM_fr (by omega) (by omega) (by omega)) | rfl)
                rw [← e_]; exact hl
              exact ih_71 (y + 1) (ua Z 23 y (-4)) (by omega) (by omega) (by first | exact skMA_y (by omega) hW (by assumption) hKf | exact skMA_n (by omega) hW (by assumption)) (fun c_ i h1 h2 h3 h4 h5 => by first | (rw [ua_nc (by omega)]; exact hfr c_ i h1 h2 h3 h4 h5) | (rw [ua_nc (by omega)]; exact ((hKf c_ i (by omega) h4 h5).trans (skM_fr (by omega) h2 h3)).trans (hfr c_ i h1 h2 h3 h4 h5))) (by first | exact KN_23 hKV | exact KN_23 hKN) (fun j h1 h2 => by
      rw [ua_at]
      by_cases q : j = y
      · rw [if_pos ⟨rfl, q⟩]; omega
      · rw [if_neg (by omega)]; first | exact hsr j h1 (by omega) | (rw [hKf 23 j (by omega) (by omega) (by omega), skM_fr (by omega) (by omega) (by omega)]; exact hsr j h1 (by omega))) _ _ I ls (lv_sub hl [1, 2, 3, 0] rfl)
      have hl : lv_has ls 4 [(3, .int (iI 0)), (2, .int (iI (nnc (F 23) (0 : Int).toNat))), (0, .ref (G.2.2 0)), (1, .int (iI x))] := by
        have e_ : 0 = (nnc (F 23) (0 : Int).toNat) := rfl
        rw [← e_]; exact hl
      exact lp_71 (9) 0 F (by omega) (by omega) (fun _ _ _ _ _ => rfl) (fun _ _ _ _ _ _ _ => rfl) (hKN) (fun j h1 h2 => absurd h2 (by omega)) _ _ I ls (lv_sub hl [2, 3, 1, 0] rfl)
    · skip
      refine ri_const X (v := 5) dX10_list_12 ?_
      refine lv_istore_n (lv' := [(2, .int (iI 5)), (0, .ref (G.2.2 0)), (1, .int (iI x))]) X.1 X.2.1 dX10_list_13 rfl hl (by decide) rfl (fun ls hl => ?_)
      refine lv_iload_n X.1 X.2.1 dX10_list_14 rfl (lv_at hl 0 rfl) ?_
      refine rz_le (tgt := 38) X (by omega) dX10_list_15 (by decide) (fun c23 => absurd c23 (by decide)) (fun _ => ?_)
      refine lv_aload_n X.1 X.2.1 dX10_list_18 rfl (lv_at hl 1 rfl) ?_
      refine gM_model_askedCodes X I tb_720 dX10_list_19 ?_
      refine lv_iload_n X.1 X.2.1 dX10_list_22 rfl (lv_at hl 0 rfl) ?_
      refine lv_aload_n X.1 X.2.1 dX10_list_23 rfl (lv_at hl 1 rfl) ?_
      refine gM_model_askedCodes X I tb_720 dX10_list_24 ?_
      refine lv_iload_n X.1 X.2.1 dX10_list_27 rfl (lv_at hl 0 rfl) ?_
      refine ri_const X (v := 1) dX10_list_28 ?_
      refine ri_sub X (v := 4) (by decide) dX10_list_29 ?_
      refine aM_askedCodes X I (v := (S.1 15 4)) rfl (by omega) dX10_list_30 ?_
      refine qM_askedCodes X I (by omega) dX10_list_31 (fun H locs I => ?_)
      have I : In (KM G) s s.heap H locs ((ua S.1 15 5 (S.1 15 4)), S.2) := I
      refine ri_iinc X (k := 0) (v := 4) (lv' := [(2, .int (iI 4)), (0, .ref (G.2.2 0)), (1, .int (iI x))]) (by decide) dX10_list_32 hl rfl (by decide) rfl (fun ls hl => ?_)
      refine lv_goto (tgt := 14) X.1 X.2.1 dX10_list_35 (by decide) ?_
      refine lv_iload_n X.1 X.2.1 dX10_list_14 rfl (lv_at hl 0 rfl) ?_
      refine rz_le (tgt := 38) X (by omega) dX10_list_15 (by decide) (fun c24 => absurd c24 (by decide)) (fun _ => ?_)
      refine lv_aload_n X.1 X.2.1 dX10_list_18 rfl (lv_at hl 1 rfl) ?_
      refine gM_model_askedCodes X I tb_720 dX10_list_19 ?_
      refine lv_iload_n X.1 X.2.1 dX10_list_22 rfl (lv_at hl 0 rfl) ?_
      refine lv_aload_n X.1 X.2.1 dX10_list_23 rfl (lv_at hl 1 rfl) ?_
      refine gM_model_askedCodes X I tb_720 dX10_list_24 ?_
      refine lv_iload_n X.1 X.2.1 dX10_list_27 rfl (lv_at hl 0 rfl) ?_
      refine ri_const X (v := 1) dX10_list_28 ?_
      refine ri_sub X (v := 3) (by decide) dX10_list_29 ?_
      refine aM_askedCodes X I (v := (S.1 15 3)) (by show (ua S.1 15 5 (S.1 15 4)) 15 3 = _; rw [ua_ni (by decide)]) (by omega) dX10_list_30 ?_
      refine qM_askedCodes X I (by omega) dX10_list_31 (fun H locs I => ?_)
      have I : In (KM G) s s.heap H locs ((ua (ua S.1 15 5 (S.1 15 4)) 15 4 (S.1 15 3)), S.2) := I
      refine ri_iinc X (k := 0) (v := 3) (lv' := [(2, .int (iI 3)), (0, .ref (G.2.2 0)), (1, .int (iI x))]) (by decide) dX10_list_32 hl rfl (by decide) rfl (fun ls hl => ?_)
      refine lv_goto (tgt := 14) X.1 X.2.1 dX10_list_35 (by decide) ?_
      refine lv_iload_n X.1 X.2.1 dX10_list_14 rfl (lv_at hl 0 rfl) ?_
      refine rz_le (tgt := 38) X (by omega) dX10_list_15 (by decide) (fun c25 => absurd c25 (by decide)) (fun _ => ?_)
      refine lv_aload_n X.1 X.2.1 dX10_list_18 rfl (lv_at hl 1 rfl) ?_
      refine gM_model_askedCodes X I tb_720 dX10_list_19 ?_
      refine lv_iload_n X.1 X.2.1 dX10_list_22 rfl (lv_at hl 0 rfl) ?_
      refine lv_aload_n X.1 X.2.1 dX10_list_23 rfl (lv_at hl 1 rfl) ?_
      refine gM_model_askedCodes X I tb_720 dX10_list_24 ?_
      refine lv_iload_n X.1 X.2.1 dX10_list_27 rfl (lv_at hl 0 rfl) ?_
      refine ri_const X (v := 1) dX10_list_28 ?_
      refine ri_sub X (v := 2) (by decide) dX10_list_29 ?_
      refine aM_askedCodes X I (v := (S.1 15 2)) (by show (ua (ua S.1 15 5 (S.1 15 4)) 15 4 (S.1 15 3)) 15 2 = _; rw [ua_ni (by decide), ua_ni (by decide)]) (by omega) dX10_list_30 ?_
      refine qM_askedCodes X I (by omega) dX10_list_31 (fun H locs I => ?_)
      have I : In (KM G) s s.heap H locs ((ua (ua (ua S.1 15 5 (S.1 15 4)) 15 4 (S.1 15 3)) 15 3 (S.1 15 2)), S.2) := I
      refine ri_iinc X (k := 0) (v := 2) (lv' := [(2, .int (iI 2)), (0, .ref (G.2.2 0)), (1, .int (iI x))]) (by decide) dX10_list_32 hl rfl (by decide) rfl (fun ls hl => ?_)
      refine lv_goto (tgt := 14) X.1 X.2.1 dX10_list_35 (by decide) ?_
      refine lv_iload_n X.1 X.2.1 dX10_list_14 rfl (lv_at hl 0 rfl) ?_
      refine rz_le (tgt := 38) X (by omega) dX10_list_15 (by decide) (fun c26 => absurd c26 (by decide)) (fun _ => ?_)
      refine lv_aload_n X.1 X.2.1 dX10_list_18 rfl (lv_at hl 1 rfl) ?_
      refine gM_model_askedCodes X I tb_720 dX10_list_19 ?_
      refine lv_iload_n X.1 X.2.1 dX10_list_22 rfl (lv_at hl 0 rfl) ?_
      refine lv_aload_n X.1 X.2.1 dX10_list_23 rfl (lv_at hl 1 rfl) ?_
      refine gM_model_askedCodes X I tb_720 dX10_list_24 ?_
      refine lv_iload_n X.1 X.2.1 dX10_list_27 rfl (lv_at hl 0 rfl) ?_
      refine ri_const X (v := 1) dX10_list_28 ?_
      refine ri_sub X (v := 1) (by decide) dX10_list_29 ?_
      refine aM_askedCodes X I (v := (S.1 15 1)) (by show (ua (ua (ua S.1 15 5 (S.1 15 4)) 15 4 (S.1 15 3)) 15 3 (S.1 15 2)) 15 1 = _; rw [ua_ni (by decide), ua_ni (by decide), ua_ni (by decide)]) (by omega) dX10_list_30 ?_
      refine qM_askedCodes X I (by omega) dX10_list_31 (fun H locs I => ?_)
      have I : In (KM G) s s.heap H locs ((ua (ua (ua (ua S.1 15 5 (S.1 15 4)) 15 4 (S.1 15 3)) 15 3 (S.1 15 2)) 15 2 (S.1 15 1)), S.2) := I
      refine ri_iinc X (k := 0) (v := 1) (lv' := [(2, .int (iI 1)), (0, .ref (G.2.2 0)), (1, .int (iI x))]) (by decide) dX10_list_32 hl rfl (by decide) rfl (fun ls hl => ?_)
      refine lv_goto (tgt := 14) X.1 X.2.1 dX10_list_35 (by decide) ?_
      refine lv_iload_n X.1 X.2.1 dX10_list_14 rfl (lv_at hl 0 rfl) ?_
      refine rz_le (tgt := 38) X (by omega) dX10_list_15 (by decide) (fun c27 => absurd c27 (by decide)) (fun _ => ?_)
      refine lv_aload_n X.1 X.2.1 dX10_list_18 rfl (lv_at hl 1 rfl) ?_
      refine gM_model_askedCodes X I tb_720 dX10_list_19 ?_
      refine lv_iload_n X.1 X.2.1 dX10_list_22 rfl (lv_at hl 0 rfl) ?_
      refine lv_aload_n X.1 X.2.1 dX10_list_23 rfl (lv_at hl 1 rfl) ?_
      refine gM_model_askedCodes X I tb_720 dX10_list_24 ?_
      refine lv_iload_n X.1 X.2.1 dX10_list_27 rfl (lv_at hl 0 rfl) ?_
      refine ri_const X (v := 1) dX10_list_28 ?_
      refine ri_sub X (v := 0) (by decide) dX10_list_29 ?_
      refine aM_askedCodes X I (v := (S.1 15 0)) (by show (ua (ua (ua (ua S.1 15 5 (S.1 15 4)) 15 4 (S.1 15 3)) 15 3 (S.1 15 2)) 15 2 (S.1 15 1)) 15 0 = _; rw [ua_ni (by decide), ua_ni (by decide), ua_ni (by decide), ua_ni (by decide)]) (by omega) dX10_list_30 ?_
      refine qM_askedCodes X I (by omega) dX10_list_31 (fun H locs I => ?_)
      have I : In (KM G) s s.heap H locs ((ua (ua (ua (ua (ua S.1 15 5 (S.1 15 4)) 15 4 (S.1 15 3)) 15 3 (S.1 15 2)) 15 2 (S.1 15 1)) 15 1 (S.1 15 0)), S.2) := I
      refine ri_iinc X (k := 0) (v := 0) (lv' := [(2, .int (iI 0)), (0, .ref (G.2.2 0)), (1, .int (iI x))]) (by decide) dX10_list_32 hl rfl (by decide) rfl (fun ls hl => ?_)
      refine lv_goto (tgt := 14) X.1 X.2.1 dX10_list_35 (by decide) ?_
      refine lv_iload_n X.1 X.2.1 dX10_list_14 rfl (lv_at hl 0 rfl) ?_
      refine rz_le (tgt := 38) X (by omega) dX10_list_15 (by decide) (fun _ => ?_) (fun c28 => absurd c28 (fun q => q (by decide)))
      refine lv_aload_n X.1 X.2.1 dX10_list_38 rfl (lv_at hl 1 rfl) ?_
      refine gM_model_askedCodes X I tb_720 dX10_list_39 ?_
      refine ri_const X (v := 0) dX10_list_42 ?_
      refine lv_aload_n X.1 X.2.1 dX10_list_43 rfl (lv_at hl 1 rfl) ?_
      refine cl_l I (runV (As := []) (rest := [.int (iI 0), .ref (G.2.2 15)]) X (k_X10_code l G ((ua (ua (ua (ua (ua S.1 15 5 (S.1 15 4)) 15 4 (S.1 15 3)) 15 3 (S.1 15 2)) 15 2 (S.1 15 1)) 15 1 (S.1 15 0)), S.2)  (S.1 53 0) (S.1 12) (by show (ua (ua (ua (ua (ua S.1 15 5 (S.1 15 4)) 15 4 (S.1 15 3)) 15 3 (S.1 15 2)) 15 2 (S.1 15 1)) 15 1 (S.1 15 0)) 53 0 = _; rw [ua_nc (by decide), ua_nc (by decide), ua_nc (by decide), ua_nc (by decide), ua_nc (by decide)]) (fun i_ => (by show (ua (ua (ua (ua (ua S.1 15 5 (S.1 15 4)) 15 4 (S.1 15 3)) 15 3 (S.1 15 2)) 15 2 (S.1 15 1)) 15 1 (S.1 15 0)) 12 i_ = _; rw [ua_nc (by decide), ua_nc (by decide), ua_nc (by decide), ua_nc (by decide), ua_nc (by decide)])) (by omega) hwd.2) (gdC tb_924 (gdC tb_926 (gdC tb_21 (gdC tb_48 (gdC tb_927 gdB))))) ⟨ok_X10_code, ⟨Nat.le_of_ble_eq_true rfl, Nat.le_of_ble_eq_true rfl⟩, rfl, rfl⟩ (PreV.of (C := RX10) (T := TX10) (N := 41) I (atM_model) rfl) rfl hl.1 rfl (Nat.le_of_ble_eq_true rfl) dX10_list_44 ⟨Nat.zero_le _, Nat.zero_le _⟩) (fun r29 S30 H locs q31 I => ?_)
      obtain ⟨e1_, e2_⟩ := q31
      rw [e2_] at I
      rw [e1_]
      clear e1_ e2_
      have hcr := cdv_r (f := (S.1 12)) ((S.1 53 0)).toNat (by omega) (fun i h1 h2 => hwd.2 i h1 (by omega))
      refine qM_askedCodes X I (by omega) dX10_list_47 (fun H locs I => ?_)
      have I : In (KM G) s s.heap H locs ((ua (ua (ua (ua (ua (ua S.1 15 5 (S.1 15 4)) 15 4 (S.1 15 3)) 15 3 (S.1 15 2)) 15 2 (S.1 15 1)) 15 1 (S.1 15 0)) 15 0 (cdv (S.1 12) ((S.1 53 0)).toNat)), S.2) := I
      refine lv_aload_n X.1 X.2.1 dX10_list_48 rfl (lv_at hl 1 rfl) ?_
      refine gM_model_askedMany X I (v := (S.1 61 0)) (by show (ua (ua (ua (ua (ua (ua S.1 15 5 (S.1 15 4)) 15 4 (S.1 15 3)) 15 3 (S.1 15 2)) 15 2 (S.1 15 1)) 15 1 (S.1 15 0)) 15 0 (cdv (S.1 12) ((S.1 53 0)).toNat)) 61 0 = _; rw [ua_nc (by decide), ua_nc (by decide), ua_nc (by decide), ua_nc (by decide), ua_nc (by decide), ua_nc (by decide)]) tb_719 dX10_list_49 ?_
      refine ri_push X (v := 6) (by decide) dX10_list_52 ?_
      refine rj_ge (tgt := 67) X (by omega) (by omega) dX10_list_54 (by decide) (fun c32 => ?_) (fun c32 => ?_)
      · skip
        obtain ⟨F, hF⟩ : ∃ F : Nat → Int → Int, F = (ua (ua (ua (ua (ua (ua S.1 15 5 (S.1 15 4)) 15 4 (S.1 15 3)) 15 3 (S.1 15 2)) 15 2 (S.1 15 1)) 15 1 (S.1 15 0)) 15 0 (cdv (S.1 12) ((S.1 53 0)).toNat)) := ⟨_, rfl⟩
        rw [← hF] at I
        have hFP : (x = -1 ∧ askP S.1 (cdv (S.1 12) (S.1 53 0).toNat) F) ∨ (0 ≤ x ∧ F = S.1) := Or.inl ⟨by omega, by rw [hF]; first | exact askP_6 (by omega) | exact askP_1 (by omega)⟩
        have hIF : MI F := by
          rcases hFP with h | h
          · exact MI_ask hI0 (by omega) h.2
          · rw [h.2]; exact hI0
        obtain ⟨ht, hc, hn, hnm, hw, hwd, hkp, hcn, has, hkn⟩ := hIF
        have hw0 := hw 0 (by omega) (by omega)
        have hw1 := hw 1 (by omega) (by omega)
        have hw2 := hw 2 (by omega) (by omega)
        have hKN : KN F := fun q a b => by have := hkn q a b; omega
        have hag : 0 ≤ F 57 0 ∧ F 57 0 ≤ 100000 := by omega
        refine ri_const X (v := 0) dX10_list_67 ?_
        refine lv_istore_n (lv' := [(2, .int (iI 0)), (0, .ref (G.2.2 0)), (1, .int (iI x))]) X.1 X.2.1 dX10_list_68 rfl hl (by decide) rfl (fun ls hl => ?_)
        refine ri_const X (v := 0) dX10_list_69 ?_
        refine lv_istore_n (lv' := [(3, .int (iI 0)), (2, .int (iI 0)), (0, .ref (G.2.2 0)), (1, .int (iI x))]) X.1 X.2.1 dX10_list_70 rfl hl (by decide) rfl (fun ls hl => ?_)
        have lp_71 : ∀ (fu_ : Nat) (y : Int) (Z : Nat → Int → Int), (8 - y).toNat < fu_ → ∀ (hy : 0 ≤ y ∧ y ≤ F 51 0) (hW : ∀ (c_ : Nat) (i : Int), ¬ (20 ≤ c_ ∧ c_ ≤ 22) → ¬ c_ = 62 → ¬ c_ = 63 → Z c_ i = skMA F y.toNat c_ i) (hfr : ∀ (c_ : Nat) (i : Int), ¬ (16 ≤ c_ ∧ c_ ≤ 23) → ¬ c_ = 58 → ¬ c_ = 59 → ¬ c_ = 62 → ¬ c_ = 63 → Z c_ i = F c_ i) (hKN : KN Z) (hsr : ∀ j : Int, 0 ≤ j → j < y → -2000 ≤ Z 23 j ∧ Z 23 j ≤ 2000) (H : Heap) (locs : List Loc), In (KM G) s s.heap H locs (Z, S.2) → ∀ ls : Array Slot, lv_has ls 4 [(0, .ref (G.2.2 0)), (1, .int (iI x)), (2, .int (iI (nnc (Z 23) y.toNat))), (3, .int (iI y))] → W p l e rm_X10_list s m args below meth c H locs 0 0 (MQ below (QI (KM G) (po_X10_list S x)) args s 0 0 (KM G).2.2.2) (F0 m 71 ls []) := by
          intro fu_
          induction fu_ with
          | zero => intro y Z hm; exact absurd hm (by omega)
          | succ fu_ ih_71 =>
            intro y Z hm_71 hy hW hfr hKN hsr H locs I ls hl
            refine lv_iload_n X.1 X.2.1 dX10_list_71 rfl (lv_at hl 3 rfl) ?_
            refine lv_aload_n X.1 X.2.1 dX10_list_72 rfl (lv_at hl 0 rfl) ?_
            refine gM_model_names X I (v := (F 51 0)) (hfr 51 0 (by omega) (by omega) (by omega) (by omega) (by omega)) tb_696 dX10_list_73 ?_
            refine rj_ge (tgt := 123) X (by omega) (by omega) dX10_list_76 (by decide) (fun c33 => ?_) (fun c33 => ?_)
            · skip
              have e_y : y = F 51 0 := by omega
              rw [e_y] at hW hsr
              have hsc := hsr
              have hpk : ∀ j : Int, 0 ≤ j → j < F 51 0 → 0 ≤ F 6 j ∧ F 6 j ≤ 100000 := fun j a b => (hnm j a b).2.2.2.1
              have hnf : ∀ j : Int, 0 ≤ j → j < F 51 0 → 0 ≤ F 3 j ∧ F 3 j ≤ 12 := fun j a b => by have := (hnm j a b).1; omega
              refine lv_iload_n X.1 X.2.1 dX10_list_123 rfl (lv_at hl 1 rfl) ?_
              refine ri_const X (v := (-1)) dX10_list_124 ?_
              refine rj_ne (tgt := 130) X (by omega) (by omega) dX10_list_125 (by decide) (fun c34 => ?_) (fun c34 => ?_)
              · skip
                refine ri_const X (v := 0) dX10_list_130 ?_
                refine lv_istore_n (lv' := [(3, .int (iI 0)), (0, .ref (G.2.2 0)), (1, .int (iI x)), (2, .int (iI (nnc (Z 23) y.toNat)))]) X.1 X.2.1 dX10_list_131 rfl hl (by decide) rfl (fun ls hl => ?_)
                have lp_132 : ∀ (fu_ : Nat) (q : Int), (8 - q).toNat < fu_ → ∀ (hq : 0 ≤ q ∧ q ≤ F 51 0) (hno : ∀ j : Int, 0 ≤ j → j < q → ¬ (¬ Z 23 j = -4 ∧ ahoM (Z 23) (F 6) (F 3) j (F 51 0).toNat = x)) (H : Heap) (locs : List Loc), In (KM G) s s.heap H locs (Z, S.2) → ∀ ls : Array Slot, lv_has ls 4 [(0, .ref (G.2.2 0)), (1, .int (iI x)), (2, .int (iI (nnc (Z 23) y.toNat))), (3, .int (iI q))] → W p l e rm_X10_list s m args below meth c H locs 0 0 (MQ below (QI (KM G) (po_X10_list S x)) args s 0 0 (KM G).2.2.2) (F0 m 132 ls []) := by
                  intro fu_
                  induction fu_ with
                  | zero => intro q hm; exact absurd hm (by omega)
                  | succ fu_ ih_132 =>
                    intro q hm_132 hq hno H locs I ls hl
                    refine lv_iload_n X.1 X.2.1 dX10_list_132 rfl (lv_at hl 3 rfl) ?_
                    refine lv_aload_n X.1 X.2.1 dX10_list_133 rfl (lv_at hl 0 rfl) ?_
                    refine gM_model_names X I (v := (F 51 0)) (hfr 51 0 (by omega) (by omega) (by omega) (by omega) (by omega)) tb_696 dX10_list_134 ?_
                    refine rj_ge (tgt := 168) X (by omega) (by omega) dX10_list_137 (by decide) (fun c35 => ?_) (fun c35 => ?_)
                    · skip
                      refine ri_push X (v := (-4)) (by decide) dX10_list_168 ?_
                      exact rt_i X hr hlk I rfl (by exact Or.inr ⟨by omega, rfl, F, hFP, hW, Or.inr ⟨by omega, Or.inr ⟨rfl, fun j a b => hno j a (by omega)⟩⟩⟩) dX10_list_170
                    · skip
                      have hsq := hsr q (by omega) (by omega)
                      refine lv_aload_n X.1 X.2.1 dX10_list_140 rfl (lv_at hl 0 rfl) ?_
                      refine gM_model_scores X I tb_730 dX10_list_141 ?_
                      refine lv_iload_n X.1 X.2.1 dX10_list_144 rfl (lv_at hl 3 rfl) ?_
                      refine aM_scores X I (v := (Z 23 q)) rfl (by omega) dX10_list_145 ?_
                      refine ri_push X (v := (-4)) (by decide) dX10_list_146 ?_
                      refine rj_eq (tgt := 162) X (by omega) (by omega) dX10_list_148 (by decide) (fun c36 => ?_) (fun c36 => ?_)
                      · skip
                        refine ri_iinc X (k := 3) (v := (q + 1)) (lv' := [(3, .int (iI (q + 1))), (0, .ref (G.2.2 0)), (1, .int (iI x)), (2, .int (iI (nnc (Z 23) y.toNat)))]) rfl dX10_list_162 hl rfl (by decide) rfl (fun ls hl => ?_)
                        refine lv_goto (tgt := 132) X.1 X.2.1 dX10_list_165 (by decide) ?_
                        exact ih_132 (q + 1) (by omega) (by omega) (fun j h1 h2 => if z : j = q then (by rw [z]; first | exact fun v => v.1 (by assumption) | exact fun v => absurd v.2 (by assumption)) else hno j h1 (by omega)) _ _ I ls (lv_sub hl [1, 2, 3, 0] rfl)
                      · skip
                        refine lv_aload_n X.1 X.2.1 dX10_list_151 rfl (lv_at hl 0 rfl) ?_
                        refine lv_iload_n X.1 X.2.1 dX10_list_152 rfl (lv_at hl 3 rfl) ?_
                        refine cl_i I (runV (As := [.int (iI q)]) (rest := []) X (k_X10_aheadOf l G (Z, S.2)  q (F 51 0) (Z 23) (F 6) (F 3) (hfr 51 0 (by omega) (by omega) (by omega) (by omega) (by omega)) (fun i_ => rfl) (fun i_ => (hfr 6 i_ (by omega) (by omega) (by omega) (by omega) (by omega))) (fun i_ => (hfr 3 i_ (by omega) (by omega) (by omega) (by omega) (by omega))) (by omega) (by omega) hsc hpk hnf) (gdC tb_971 (gdC tb_973 (gdC tb_30 (gdC tb_48 (gdC tb_974 gdB))))) ⟨ok_X10_aheadOf, ⟨Nat.le_of_ble_eq_true rfl, Nat.le_of_ble_eq_true rfl⟩, rfl, rfl⟩ (PreV.of (C := RX10) (T := TX10) (N := 41) I (atM_model) rfl) rfl hl.1 rfl (Nat.le_of_ble_eq_true rfl) dX10_list_153 ⟨Nat.zero_le _, Nat.zero_le _⟩) (fun r37 S38 H locs q39 I => ?_)
                        obtain ⟨e1_, e2_⟩ := q39
                        rw [e2_] at I
                        rw [e1_]
                        clear e1_ e2_
                        have t40 := ahoM_r (Z 23) (F 6) (F 3) q ((F 51 0)).toNat
                        refine lv_iload_n X.1 X.2.1 dX10_list_156 rfl (lv_at hl 1 rfl) ?_
                        refine rj_ne (tgt := 162) X (by omega) (by omega) dX10_list_157 (by decide) (fun c41 => ?_) (fun c41 => ?_)
                        · skip
                          refine ri_iinc X (k := 3) (v := (q + 1)) (lv' := [(3, .int (iI (q + 1))), (0, .ref (G.2.2 0)), (1, .int (iI x)), (2, .int (iI (nnc (Z 23) y.toNat)))]) rfl dX10_list_162 hl rfl (by decide) rfl (fun ls hl => ?_)
                          refine lv_goto (tgt := 132) X.1 X.2.1 dX10_list_165 (by decide) ?_
                          exact ih_132 (q + 1) (by omega) (by omega) (fun j h1 h2 => if z : j = q then (by rw [z]; first | exact fun v => v.1 (by assumption) | exact fun v => absurd v.2 (by assumption)) else hno j h1 (by omega)) _ _ I ls (lv_sub hl [1, 2, 3, 0] rfl)
                        · skip
                          refine lv_iload_n X.1 X.2.1 dX10_list_160 rfl (lv_at hl 3 rfl) ?_
                          exact rt_i X hr hlk I rfl (by exact Or.inr ⟨by omega, rfl, F, hFP, hW, Or.inr ⟨by omega, Or.inl ⟨q, by omega, by assumption, by assumption, rfl, hno⟩⟩⟩) dX10_list_161
                exact lp_132 (9) 0 (by omega) (by omega) (fun j h1 h2 => absurd h2 (by omega)) _ _ I ls (lv_sub hl [1, 2, 3, 0] rfl)
              · skip
                refine lv_iload_n X.1 X.2.1 dX10_list_128 rfl (lv_at hl 2 rfl) ?_
                exact rt_i X hr hlk I rfl (by exact Or.inr ⟨by omega, rfl, F, hFP, hW, Or.inl ⟨by omega, by rw [e_y]⟩⟩) dX10_list_129
            · skip
              have hny := hnm y (by omega) (by omega)
              obtain ⟨hn1, hn2, hn3, hn4, hn5⟩ := hny
              have hcr := cdv_r (f := F 12) (F 53 0).toNat (by omega) (fun i h1 h2 => hwd.2 i h1 (by omega))
              refine lv_aload_n X.1 X.2.1 dX10_list_79 rfl (lv_at hl 0 rfl) ?_
              refine gM_model_scores X I tb_730 dX10_list_80 ?_
              refine lv_iload_n X.1 X.2.1 dX10_list_83 rfl (lv_at hl 3 rfl) ?_
              refine lv_aload_n X.1 X.2.1 dX10_list_84 rfl (lv_at hl 0 rfl) ?_
              refine lv_iload_n X.1 X.2.1 dX10_list_85 rfl (lv_at hl 3 rfl) ?_
              refine cl_i I (runV (As := [.int (iI y)]) (rest := [.int (iI y), .ref (G.2.2 23)]) X (k_X10_passing l G (Z, S.2)  y (F 3 y) (F 2) (F 53 0) (F 12) (hfr 3 y (by omega) (by omega) (by omega) (by omega) (by omega)) (fun i_ => (hfr 2 i_ (by omega) (by omega) (by omega) (by omega) (by omega))) (hfr 53 0 (by omega) (by omega) (by omega) (by omega) (by omega)) (fun i_ => (hfr 12 i_ (by omega) (by omega) (by omega) (by omega) (by omega))) (by omega) hn1 hn5 hwd.1 hwd.2) (gdC tb_963 (gdC tb_965 (gdC tb_28 (gdC tb_48 (gdC tb_966 gdB))))) ⟨ok_X10_passing, ⟨Nat.le_of_ble_eq_true rfl, Nat.le_of_ble_eq_true rfl⟩, rfl, rfl⟩ (PreV.of (C := RX10) (T := TX10) (N := 41) I (atM_model) rfl) rfl hl.1 rfl (Nat.le_of_ble_eq_true rfl) dX10_list_86 ⟨Nat.zero_le _, Nat.zero_le _⟩) (fun r42 S43 H locs q44 I => ?_)
              obtain ⟨e1_, e2_⟩ := q44
              rw [e2_] at I
              rw [e1_]
              clear e1_ e2_
              rcases Decidable.em (psL (fun z_ => (F 2) (12 * y + z_)) ((F 3 y)).toNat (F 12) ((F 53 0)).toNat = true) with b45 | b45
              · rw [bI_t b45]
                refine rz_eq (tgt := 100) X (by omega) dX10_list_89 (by decide) (fun c46 => absurd c46 (by decide)) (fun _ => ?_)
                refine lv_aload_n X.1 X.2.1 dX10_list_92 rfl (lv_at hl 0 rfl) ?_
                refine lv_iload_n X.1 X.2.1 dX10_list_93 rfl (lv_at hl 3 rfl) ?_
                refine cl_i I (runV (As := [.int (iI y)]) (rest := [.int (iI y), .ref (G.2.2 23)]) X (k_X10_sought l G (Z, S.2)  y (F 5 y) (F 57 0) (F 53 0) (F 12) (F 2) (F 4 y) (F 3 y) (F 7 0) (F 7 1) (F 7 2) (hfr 5 y (by omega) (by omega) (by omega) (by omega) (by omega)) (hfr 57 0 (by omega) (by omega) (by omega) (by omega) (by omega)) (hfr 53 0 (by omega) (by omega) (by omega) (by omega) (by omega)) (fun i_ => (hfr 12 i_ (by omega) (by omega) (by omega) (by omega) (by omega))) (fun i_ => (hfr 2 i_ (by omega) (by omega) (by omega) (by omega) (by omega))) (hfr 4 y (by omega) (by omega) (by omega) (by omega) (by omega)) (hfr 3 y (by omega) (by omega) (by omega) (by omega) (by omega)) (hfr 7 0 (by omega) (by omega) (by omega) (by omega) (by omega)) (hfr 7 1 (by omega) (by omega) (by omega) (by omega) (by omega)) (hfr 7 2 (by omega) (by omega) (by omega) (by omega) (by omega)) (by omega) hn3 hag hwd hn2 hn1 hn5 hw0 hw1 hw2 hKN) (gdC tb_920 (gdC tb_922 (gdC tb_20 (gdC tb_48 (gdC tb_923 gdB))))) ⟨ok_X10_sought, ⟨Nat.le_of_ble_eq_true rfl, Nat.le_of_ble_eq_true rfl⟩, rfl, rfl⟩ (PreV.of (C := RX10) (T := TX10) (N := 41) I (atM_model) rfl) rfl hl.1 rfl (Nat.le_of_ble_eq_true rfl) dX10_list_94 ⟨Nat.zero_le _, Nat.zero_le _⟩) (fun r47 S48 H locs q49 I => ?_)
                obtain ⟨hK2, hKf, hKr⟩ := q49
                obtain ⟨V1, V2⟩ := S48
                dsimp only at hK2 hKf hKr
                subst hK2
                rw [hKr]
                have hrs := resS_r (s := fun z_ => F 2 (12 * y + z_)) (f := F 12) (kd := F 4 y) (n := F 3 y) (m := F 53 0) hw0 hw1 hw2 (by omega) (by omega)
                have hkr := skM_r (di := F 5 y) (ag := F 57 0) (cd := cdv (F 12) (F 53 0).toNat) hKN hrs
                have hKV : KN V1 := KN_sk hKN hn3 hag hcr hrs hKf
                refine lv_goto (tgt := 102) X.1 X.2.1 dX10_list_97 (by decide) ?_
                refine qM_scores X I (by omega) dX10_list_102 (fun H locs I => ?_)
                have I : In (KM G) s s.heap H locs ((ua V1 23 y (skM Z (F 5 y) (F 57 0) (cdv (F 12) ((F 53 0)).toNat) (resS (fun z_ => (F 2) (12 * y + z_)) (F 12) (F 4 y) (F 7 0) (F 7 1) (F 7 2) (F 3 y) (F 53 0)).2.1).2), S.2) := I
                refine lv_aload_n X.1 X.2.1 dX10_list_103 rfl (lv_at hl 0 rfl) ?_
                refine gM_model_scores X I tb_730 dX10_list_104 ?_
                refine lv_iload_n X.1 X.2.1 dX10_list_107 rfl (lv_at hl 3 rfl) ?_
                refine aM_scores X I (v := (skM Z (F 5 y) (F 57 0) (cdv (F 12) ((F 53 0)).toNat) (resS (fun z_ => (F 2) (12 * y + z_)) (F 12) (F 4 y) (F 7 0) (F 7 1) (F 7 2) (F 3 y) (F 53 0)).2.1).2) (by show (ua V1 23 y (skM Z (F 5 y) (F 57 0) (cdv (F 12) ((F 53 0)).toNat) (resS (fun z_ => (F 2) (12 * y + z_)) (F 12) (F 4 y) (F 7 0) (F 7 1) (F 7 2) (F 3 y) (F 53 0)).2.1).2) 23 y = _; rw [ua_eq]) (by omega) dX10_list_108 ?_
                refine ri_push X (v := (-4)) (by decide) dX10_list_109 ?_
                refine rj_eq (tgt := 117) X (by omega) (by omega) dX10_list_111 (by decide) (fun c50 => ?_) (fun c50 => ?_)
                · skip
                  refine ri_iinc X (k := 3) (v := (y + 1)) (lv' := [(3, .int (iI (y + 1))), (0, .ref (G.2.2 0)), (1, .int (iI x)), (2, .int (iI (nnc (Z 23) y.toNat)))]) rfl dX10_list_117 hl rfl (by decide) rfl (fun ls hl => ?_)
                  refine lv_goto (tgt := 71) X.1 X.2.1 dX10_list_120 (by decide) ?_
                  have hl : lv_has ls 4 [(3, .int (iI (y + 1))), (0, .ref (G.2.2 0)), (1, .int (iI x)), (2, .int (iI (nnc ((ua V1 23 y (skM Z (F 5 y) (F 57 0) (cdv (F 12) ((F 53 0)).toNat) (resS (fun z_ => (F 2) (12 * y + z_)) (F 12) (F 4 y) (F 7 0) (F 7 1) (F 7 2) (F 3 y) (F 53 0)).2.1).2) 23) (y + 1).toNat)))] := by
                    have e_ : (nnc (Z 23) y.toNat) = (nnc ((ua V1 23 y (skM Z (F 5 y) (F 57 0) (cdv (F 12) ((F 53 0)).toNat) (resS (fun z_ => (F 2) (12 * y + z_)) (F 12) (F 4 y) (F 7 0) (F 7 1) (F 7 2) (F 3 y) (F 53 0)).2.1).2) 23) (y + 1).toNat) := by first | exact nnc_p (by omega) (by assumption) (fun j a b => by first | exact (hKf 23 j (by omega) (by omega) (by omega)).trans (skM_fr (by omega) (by omega) (by omega)) | rfl) | exact nnc_m (by omega) (by assumption) (fun j a b => by first | exact (hKf 23 j (by omega) (by omega) (by omega)).trans (skM_fr (by omega) (by omega) (by omega)) | rfl)
                    rw [← e_]; exact hl
                  exact ih_71 (y + 1) (ua V1 23 y (skM Z (F 5 y) (F 57 0) (cdv (F 12) ((F 53 0)).toNat) (resS (fun z_ => (F 2) (12 * y + z_)) (F 12) (F 4 y) (F 7 0) (F 7 1) (F 7 2) (F 3 y) (F 53 0)).2.1).2) (by omega) (by omega) (by first | exact skMA_y (by omega) hW (by assumption) hKf | exact skMA_n (by omega) hW (by assumption)) (fun c_ i h1 h2 h3 h4 h5 => by first | (rw [ua_nc (by omega)]; exact hfr c_ i h1 h2 h3 h4 h5) | (rw [ua_nc (by omega)]; exact ((hKf c_ i (by omega) h4 h5).trans (skM_fr (by omega) h2 h3)).trans (hfr c_ i h1 h2 h3 h4 h5))) (by first | exact KN_23 hKV | exact KN_23 hKN) (fun j h1 h2 => by
      rw [ua_at]
      by_cases q : j = y
      · rw [if_pos ⟨rfl, q⟩]; omega
      · rw [if_neg (by omega)]; first | exact hsr j h1 (by omega) | (rw [hKf 23 j (by omega) (by omega) (by omega), skM_fr (by omega) (by omega) (by omega)]; exact hsr j h1 (by omega))) _ _ I ls (lv_sub hl [1, 2, 3, 0] rfl)
                · skip
                  refine ri_iinc X (k := 2) (v := ((nnc (Z 23) y.toNat) + 1)) (lv' := [(2, .int (iI ((nnc (Z 23) y.toNat) + 1))), (0, .ref (G.2.2 0)), (1, .int (iI x)), (3, .int (iI y))]) rfl dX10_list_114 hl rfl (by decide) rfl (fun ls hl => ?_)
                  refine ri_iinc X (k := 3) (v := (y + 1)) (lv' := [(3, .int (iI (y + 1))), (2, .int (iI ((nnc (Z 23) y.toNat) + 1))), (0, .ref (G.2.2 0)), (1, .int (iI x))]) rfl dX10_list_117 hl rfl (by decide) rfl (fun ls hl => ?_)
                  refine lv_goto (tgt := 71) X.1 X.2.1 dX10_list_120 (by decide) ?_
                  have hl : lv_has ls 4 [(3, .int (iI (y + 1))), (2, .int (iI (nnc ((ua V1 23 y (skM Z (F 5 y) (F 57 0) (cdv (F 12) ((F 53 0)).toNat) (resS (fun z_ => (F 2) (12 * y + z_)) (F 12) (F 4 y) (F 7 0) (F 7 1) (F 7 2) (F 3 y) (F 53 0)).2.1).2) 23) (y + 1).toNat))), (0, .ref (G.2.2 0)), (1, .int (iI x))] := by
                    have e_ : ((nnc (Z 23) y.toNat) + 1) = (nnc ((ua V1 23 y (skM Z (F 5 y) (F 57 0) (cdv (F 12) ((F 53 0)).toNat) (resS (fun z_ => (F 2) (12 * y + z_)) (F 12) (F 4 y) (F 7 0) (F 7 1) (F 7 2) (F 3 y) (F 53 0)).2.1).2) 23) (y + 1).toNat) := by first | exact nnc_p (by omega) (by assumption) (fun j a b => by first | exact (hKf 23 j (by omega) (by omega) (by omega)).trans (skM_fr (by omega) (by omega) (by omega)) | rfl) | exact nnc_m (by omega) (by assumption) (fun j a b => by first | exact (hKf 23 j (by omega) (by omega) (by omega)).trans (skM_fr (by omega) (by omega) (by omega)) | rfl)
                    rw [← e_]; exact hl
                  exact ih_71 (y + 1) (ua V1 23 y (skM Z (F 5 y) (F 57 0) (cdv (F 12) ((F 53 0)).toNat) (resS (fun z_ => (F 2) (12 * y + z_)) (F 12) (F 4 y) (F 7 0) (F 7 1) (F 7 2) (F 3 y) (F 53 0)).2.1).2) (by omega) (by omega) (by first | exact skMA_y (by omega) hW (by assumption) hKf | exact skMA_n (by omega) hW (by assumption)) (fun c_ i h1 h2 h3 h4 h5 => by first | (rw [ua_nc (by omega)]; exact hfr c_ i h1 h2 h3 h4 h5) | (rw [ua_nc (by omega)]; exact ((hKf c_ i (by omega) h4 h5).trans (skM_fr (by omega) h2 h3)).trans (hfr c_ i h1 h2 h3 h4 h5))) (by first | exact KN_23 hKV | exact KN_23 hKN) (fun j h1 h2 => by
      rw [ua_at]
      by_cases q : j = y
      · rw [if_pos ⟨rfl, q⟩]; omega
      · rw [if_neg (by omega)]; first | exact hsr j h1 (by omega) | (rw [hKf 23 j (by omega) (by omega) (by omega), skM_fr (by omega) (by omega) (by omega)]; exact hsr j h1 (by omega))) _ _ I ls (lv_sub hl [2, 3, 1, 0] rfl)
              · rw [bI_f b45]
                refine rz_eq (tgt := 100) X (by omega) dX10_list_89 (by decide) (fun _ => ?_) (fun c51 => absurd c51 (fun q => q (by decide)))
                refine ri_push X (v := (-4)) (by decide) dX10_list_100 ?_
                refine qM_scores X I (by omega) dX10_list_102 (fun H locs I => ?_)
                have I : In (KM G) s s.heap H locs ((ua Z 23 y (-4)), S.2) := I
                refine lv_aload_n X.1 X.2.1 dX10_list_103 rfl (lv_at hl 0 rfl) ?_
                refine gM_model_scores X I tb_730 dX10_list_104 ?_
                refine lv_iload_n X.1 X.2.1 dX10_list_107 rfl (lv_at hl 3 rfl) ?_
                refine aM_scores X I (v := (-4)) (by show (ua Z 23 y (-4)) 23 y = _; rw [ua_eq]) (by omega) dX10_list_108 ?_
                refine ri_push X (v := (-4)) (by decide) dX10_list_109 ?_
                refine rj_eq (tgt := 117) X (by omega) (by omega) dX10_list_111 (by decide) (fun _ => ?_) (fun c52 => absurd c52 (fun q => q (by decide)))
                refine ri_iinc X (k := 3) (v := (y + 1)) (lv' := [(3, .int (iI (y + 1))), (0, .ref (G.2.2 0)), (1, .int (iI x)), (2, .int (iI (nnc (Z 23) y.toNat)))]) rfl dX10_list_117 hl rfl (by decide) rfl (fun ls hl => ?_)
                refine lv_goto (tgt := 71) X.1 X.2.1 dX10_list_120 (by decide) ?_
                have hl : lv_has ls 4 [(3, .int (iI (y + 1))), (0, .ref (G.2.2 0)), (1, .int (iI x)), (2, .int (iI (nnc ((ua Z 23 y (-4)) 23) (y + 1).toNat)))] := by
                  have e_ : (nnc (Z 23) y.toNat) = (nnc ((ua Z 23 y (-4)) 23) (y + 1).toNat) := by first | exact nnc_p (by omega) (by assumption) (fun j a b => by first | exact (hKf 23 j (by omega) (by omega) (by omega)).trans (skM_fr (by omega) (by omega) (by omega)) | rfl) | exact nnc_m (by omega) (by assumption) (fun j a b => by first | exact (hKf 23 j (by omega) (by omega) (by omega)).trans (skM_fr (by omega) (by omega) (by omega)) | rfl)
                  rw [← e_]; exact hl
                exact ih_71 (y + 1) (ua Z 23 y (-4)) (by omega) (by omega) (by first | exact skMA_y (by omega) hW (by assumption) hKf | exact skMA_n (by omega) hW (by assumption)) (fun c_ i h1 h2 h3 h4 h5 => by first | (rw [ua_nc (by omega)]; exact hfr c_ i h1 h2 h3 h4 h5) | (rw [ua_nc (by omega)]; exact ((hKf c_ i (by omega) h4 h5).trans (skM_fr (by omega) h2 h3)).trans (hfr c_ i h1 h2 h3 h4 h5))) (by first | exact KN_23 hKV | exact KN_23 hKN) (fun j h1 h2 => by
      rw [ua_at]
      by_cases q : j = y
      · rw [if_pos ⟨rfl, q⟩]; omega
      · rw [if_neg (by omega)]; first | exact hsr j h1 (by omega) | (rw [hKf 23 j (by omega) (by omega) (by omega), skM_fr (by omega) (by omega) (by omega)]; exact hsr j h1 (by omega))) _ _ I ls (lv_sub hl [1, 2, 3, 0] rfl)
        have hl : lv_has ls 4 [(3, .int (iI 0)), (2, .int (iI (nnc (F 23) (0 : Int).toNat))), (0, .ref (G.2.2 0)), (1, .int (iI x))] := by
          have e_ : 0 = (nnc (F 23) (0 : Int).toNat) := rfl
          rw [← e_]; exact hl
        exact lp_71 (9) 0 F (by omega) (by omega) (fun _ _ _ _ _ => rfl) (fun _ _ _ _ _ _ _ => rfl) (hKN) (fun j h1 h2 => absurd h2 (by omega)) _ _ I ls (lv_sub hl [2, 3, 1, 0] rfl)
      · skip
        refine lv_aload_n X.1 X.2.1 dX10_list_57 rfl (lv_at hl 1 rfl) ?_
        refine lv_dup X.1 X.2.1 dX10_list_58 rfl ?_
        refine gM_model_askedMany X I (v := (S.1 61 0)) (by show (ua (ua (ua (ua (ua (ua S.1 15 5 (S.1 15 4)) 15 4 (S.1 15 3)) 15 3 (S.1 15 2)) 15 2 (S.1 15 1)) 15 1 (S.1 15 0)) 15 0 (cdv (S.1 12) ((S.1 53 0)).toNat)) 61 0 = _; rw [ua_nc (by decide), ua_nc (by decide), ua_nc (by decide), ua_nc (by decide), ua_nc (by decide), ua_nc (by decide)]) tb_719 dX10_list_59 ?_
        refine ri_const X (v := 1) dX10_list_62 ?_
        refine ri_add X (v := ((S.1 61 0) + 1)) rfl dX10_list_63 ?_
        refine pM_model_askedMany X I tb_719 dX10_list_64 (fun H locs I => ?_)
        have I : In (KM G) s s.heap H locs ((us (ua (ua (ua (ua (ua (ua S.1 15 5 (S.1 15 4)) 15 4 (S.1 15 3)) 15 3 (S.1 15 2)) 15 2 (S.1 15 1)) 15 1 (S.1 15 0)) 15 0 (cdv (S.1 12) ((S.1 53 0)).toNat)) 61 ((S.1 61 0) + 1)), S.2) := I
        obtain ⟨F, hF⟩ : ∃ F : Nat → Int → Int, F = (us (ua (ua (ua (ua (ua (ua S.1 15 5 (S.1 15 4)) 15 4 (S.1 15 3)) 15 3 (S.1 15 2)) 15 2 (S.1 15 1)) 15 1 (S.1 15 0)) 15 0 (cdv (S.1 12) ((S.1 53 0)).toNat)) 61 ((S.1 61 0) + 1)) := ⟨_, rfl⟩
        rw [← hF] at I
        have hFP : (x = -1 ∧ askP S.1 (cdv (S.1 12) (S.1 53 0).toNat) F) ∨ (0 ≤ x ∧ F = S.1) := Or.inl ⟨by omega, by rw [hF]; first | exact askP_6 (by omega) | exact askP_1 (by omega)⟩
        have hIF : MI F := by
          rcases hFP with h | h
          · exact MI_ask hI0 (by omega) h.2
          · rw [h.2]; exact hI0
        obtain ⟨ht, hc, hn, hnm, hw, hwd, hkp, hcn, has, hkn⟩ := hIF
        have hw0 := hw 0 (by omega) (by omega)
        have hw1 := hw 1 (by omega) (by omega)
        have hw2 := hw 2 (by omega) (by omega)
        have hKN : KN F := fun q a b => by have := hkn q a b; omega
        have hag : 0 ≤ F 57 0 ∧ F 57 0 ≤ 100000 := by omega
        refine ri_const X (v := 0) dX10_list_67 ?_
        refine lv_istore_n (lv' := [(2, .int (iI 0)), (0, .ref (G.2.2 0)), (1, .int (iI x))]) X.1 X.2.1 dX10_list_68 rfl hl (by decide) rfl (fun ls hl => ?_)
        refine ri_const X (v := 0) dX10_list_69 ?_
        refine lv_istore_n (lv' := [(3, .int (iI 0)), (2, .int (iI 0)), (0, .ref (G.2.2 0)), (1, .int (iI x))]) X.1 X.2.1 dX10_list_70 rfl hl (by decide) rfl (fun ls hl => ?_)
        have lp_71 : ∀ (fu_ : Nat) (y : Int) (Z : Nat → Int → Int), (8 - y).toNat < fu_ → ∀ (hy : 0 ≤ y ∧ y ≤ F 51 0) (hW : ∀ (c_ : Nat) (i : Int), ¬ (20 ≤ c_ ∧ c_ ≤ 22) → ¬ c_ = 62 → ¬ c_ = 63 → Z c_ i = skMA F y.toNat c_ i) (hfr : ∀ (c_ : Nat) (i : Int), ¬ (16 ≤ c_ ∧ c_ ≤ 23) → ¬ c_ = 58 → ¬ c_ = 59 → ¬ c_ = 62 → ¬ c_ = 63 → Z c_ i = F c_ i) (hKN : KN Z) (hsr : ∀ j : Int, 0 ≤ j → j < y → -2000 ≤ Z 23 j ∧ Z 23 j ≤ 2000) (H : Heap) (locs : List Loc), In (KM G) s s.heap H locs (Z, S.2) → ∀ ls : Array Slot, lv_has ls 4 [(0, .ref (G.2.2 0)), (1, .int (iI x)), (2, .int (iI (nnc (Z 23) y.toNat))), (3, .int (iI y))] → W p l e rm_X10_list s m args below meth c H locs 0 0 (MQ below (QI (KM G) (po_X10_list S x)) args s 0 0 (KM G).2.2.2) (F0 m 71 ls []) := by
          intro fu_
          induction fu_ with
          | zero => intro y Z hm; exact absurd hm (by omega)
          | succ fu_ ih_71 =>
            intro y Z hm_71 hy hW hfr hKN hsr H locs I ls hl
            refine lv_iload_n X.1 X.2.1 dX10_list_71 rfl (lv_at hl 3 rfl) ?_
            refine lv_aload_n X.1 X.2.1 dX10_list_72 rfl (lv_at hl 0 rfl) ?_
            refine gM_model_names X I (v := (F 51 0)) (hfr 51 0 (by omega) (by omega) (by omega) (by omega) (by omega)) tb_696 dX10_list_73 ?_
            refine rj_ge (tgt := 123) X (by omega) (by omega) dX10_list_76 (by decide) (fun c53 => ?_) (fun c53 => ?_)
            · skip
              have e_y : y = F 51 0 := by omega
              rw [e_y] at hW hsr
              have hsc := hsr
              have hpk : ∀ j : Int, 0 ≤ j → j < F 51 0 → 0 ≤ F 6 j ∧ F 6 j ≤ 100000 := fun j a b => (hnm j a b).2.2.2.1
              have hnf : ∀ j : Int, 0 ≤ j → j < F 51 0 → 0 ≤ F 3 j ∧ F 3 j ≤ 12 := fun j a b => by have := (hnm j a b).1; omega
              refine lv_iload_n X.1 X.2.1 dX10_list_123 rfl (lv_at hl 1 rfl) ?_
              refine ri_const X (v := (-1)) dX10_list_124 ?_
              refine rj_ne (tgt := 130) X (by omega) (by omega) dX10_list_125 (by decide) (fun c54 => ?_) (fun c54 => ?_)
              · skip
                refine ri_const X (v := 0) dX10_list_130 ?_
                refine lv_istore_n (lv' := [(3, .int (iI 0)), (0, .ref (G.2.2 0)), (1, .int (iI x)), (2, .int (iI (nnc (Z 23) y.toNat)))]) X.1 X.2.1 dX10_list_131 rfl hl (by decide) rfl (fun ls hl => ?_)
                have lp_132 : ∀ (fu_ : Nat) (q : Int), (8 - q).toNat < fu_ → ∀ (hq : 0 ≤ q ∧ q ≤ F 51 0) (hno : ∀ j : Int, 0 ≤ j → j < q → ¬ (¬ Z 23 j = -4 ∧ ahoM (Z 23) (F 6) (F 3) j (F 51 0).toNat = x)) (H : Heap) (locs : List Loc), In (KM G) s s.heap H locs (Z, S.2) → ∀ ls : Array Slot, lv_has ls 4 [(0, .ref (G.2.2 0)), (1, .int (iI x)), (2, .int (iI (nnc (Z 23) y.toNat))), (3, .int (iI q))] → W p l e rm_X10_list s m args below meth c H locs 0 0 (MQ below (QI (KM G) (po_X10_list S x)) args s 0 0 (KM G).2.2.2) (F0 m 132 ls []) := by
                  intro fu_
                  induction fu_ with
                  | zero => intro q hm; exact absurd hm (by omega)
                  | succ fu_ ih_132 =>
                    intro q hm_132 hq hno H locs I ls hl
                    refine lv_iload_n X.1 X.2.1 dX10_list_132 rfl (lv_at hl 3 rfl) ?_
                    refine lv_aload_n X.1 X.2.1 dX10_list_133 rfl (lv_at hl 0 rfl) ?_
                    refine gM_model_names X I (v := (F 51 0)) (hfr 51 0 (by omega) (by omega) (by omega) (by omega) (by omega)) tb_696 dX10_list_134 ?_
                    refine rj_ge (tgt := 168) X (by omega) (by omega) dX10_list_137 (by decide) (fun c55 => ?_) (fun c55 => ?_)
                    · skip
                      refine ri_push X (v := (-4)) (by decide) dX10_list_168 ?_
                      exact rt_i X hr hlk I rfl (by exact Or.inr ⟨by omega, rfl, F, hFP, hW, Or.inr ⟨by omega, Or.inr ⟨rfl, fun j a b => hno j a (by omega)⟩⟩⟩) dX10_list_170
                    · skip
                      have hsq := hsr q (by omega) (by omega)
                      refine lv_aload_n X.1 X.2.1 dX10_list_140 rfl (lv_at hl 0 rfl) ?_
                      refine gM_model_scores X I tb_730 dX10_list_141 ?_
                      refine lv_iload_n X.1 X.2.1 dX10_list_144 rfl (lv_at hl 3 rfl) ?_
                      refine aM_scores X I (v := (Z 23 q)) rfl (by omega) dX10_list_145 ?_
                      refine ri_push X (v := (-4)) (by decide) dX10_list_146 ?_
                      refine rj_eq (tgt := 162) X (by omega) (by omega) dX10_list_148 (by decide) (fun c56 => ?_) (fun c56 => ?_)
                      · skip
                        refine ri_iinc X (k := 3) (v := (q + 1)) (lv' := [(3, .int (iI (q + 1))), (0, .ref (G.2.2 0)), (1, .int (iI x)), (2, .int (iI (nnc (Z 23) y.toNat)))]) rfl dX10_list_162 hl rfl (by decide) rfl (fun ls hl => ?_)
                        refine lv_goto (tgt := 132) X.1 X.2.1 dX10_list_165 (by decide) ?_
                        exact ih_132 (q + 1) (by omega) (by omega) (fun j h1 h2 => if z : j = q then (by rw [z]; first | exact fun v => v.1 (by assumption) | exact fun v => absurd v.2 (by assumption)) else hno j h1 (by omega)) _ _ I ls (lv_sub hl [1, 2, 3, 0] rfl)
                      · skip
                        refine lv_aload_n X.1 X.2.1 dX10_list_151 rfl (lv_at hl 0 rfl) ?_
                        refine lv_iload_n X.1 X.2.1 dX10_list_152 rfl (lv_at hl 3 rfl) ?_
                        refine cl_i I (runV (As := [.int (iI q)]) (rest := []) X (k_X10_aheadOf l G (Z, S.2)  q (F 51 0) (Z 23) (F 6) (F 3) (hfr 51 0 (by omega) (by omega) (by omega) (by omega) (by omega)) (fun i_ => rfl) (fun i_ => (hfr 6 i_ (by omega) (by omega) (by omega) (by omega) (by omega))) (fun i_ => (hfr 3 i_ (by omega) (by omega) (by omega) (by omega) (by omega))) (by omega) (by omega) hsc hpk hnf) (gdC tb_971 (gdC tb_973 (gdC tb_30 (gdC tb_48 (gdC tb_974 gdB))))) ⟨ok_X10_aheadOf, ⟨Nat.le_of_ble_eq_true rfl, Nat.le_of_ble_eq_true rfl⟩, rfl, rfl⟩ (PreV.of (C := RX10) (T := TX10) (N := 41) I (atM_model) rfl) rfl hl.1 rfl (Nat.le_of_ble_eq_true rfl) dX10_list_153 ⟨Nat.zero_le _, Nat.zero_le _⟩) (fun r57 S58 H locs q59 I => ?_)
                        obtain ⟨e1_, e2_⟩ := q59
                        rw [e2_] at I
                        rw [e1_]
                        clear e1_ e2_
                        have t60 := ahoM_r (Z 23) (F 6) (F 3) q ((F 51 0)).toNat
                        refine lv_iload_n X.1 X.2.1 dX10_list_156 rfl (lv_at hl 1 rfl) ?_
                        refine rj_ne (tgt := 162) X (by omega) (by omega) dX10_list_157 (by decide) (fun c61 => ?_) (fun c61 => ?_)
                        · skip
                          refine ri_iinc X (k := 3) (v := (q + 1)) (lv' := [(3, .int (iI (q + 1))), (0, .ref (G.2.2 0)), (1, .int (iI x)), (2, .int (iI (nnc (Z 23) y.toNat)))]) rfl dX10_list_162 hl rfl (by decide) rfl (fun ls hl => ?_)
                          refine lv_goto (tgt := 132) X.1 X.2.1 dX10_list_165 (by decide) ?_
                          exact ih_132 (q + 1) (by omega) (by omega) (fun j h1 h2 => if z : j = q then (by rw [z]; first | exact fun v => v.1 (by assumption) | exact fun v => absurd v.2 (by assumption)) else hno j h1 (by omega)) _ _ I ls (lv_sub hl [1, 2, 3, 0] rfl)
                        · skip
                          refine lv_iload_n X.1 X.2.1 dX10_list_160 rfl (lv_at hl 3 rfl) ?_
                          exact rt_i X hr hlk I rfl (by exact Or.inr ⟨by omega, rfl, F, hFP, hW, Or.inr ⟨by omega, Or.inl ⟨q, by omega, by assumption, by assumption, rfl, hno⟩⟩⟩) dX10_list_161
                exact lp_132 (9) 0 (by omega) (by omega) (fun j h1 h2 => absurd h2 (by omega)) _ _ I ls (lv_sub hl [1, 2, 3, 0] rfl)
              · skip
                refine lv_iload_n X.1 X.2.1 dX10_list_128 rfl (lv_at hl 2 rfl) ?_
                exact rt_i X hr hlk I rfl (by exact Or.inr ⟨by omega, rfl, F, hFP, hW, Or.inl ⟨by omega, by rw [e_y]⟩⟩) dX10_list_129
            · skip
              have hny := hnm y (by omega) (by omega)
              obtain ⟨hn1, hn2, hn3, hn4, hn5⟩ := hny
              have hcr := cdv_r (f := F 12) (F 53 0).toNat (by omega) (fun i h1 h2 => hwd.2 i h1 (by omega))
              refine lv_aload_n X.1 X.2.1 dX10_list_79 rfl (lv_at hl 0 rfl) ?_
              refine gM_model_scores X I tb_730 dX10_list_80 ?_
              refine lv_iload_n X.1 X.2.1 dX10_list_83 rfl (lv_at hl 3 rfl) ?_
              refine lv_aload_n X.1 X.2.1 dX10_list_84 rfl (lv_at hl 0 rfl) ?_
              refine lv_iload_n X.1 X.2.1 dX10_list_85 rfl (lv_at hl 3 rfl) ?_
              refine cl_i I (runV (As := [.int (iI y)]) (rest := [.int (iI y), .ref (G.2.2 23)]) X (k_X10_passing l G (Z, S.2)  y (F 3 y) (F 2) (F 53 0) (F 12) (hfr 3 y (by omega) (by omega) (by omega) (by omega) (by omega)) (fun i_ => (hfr 2 i_ (by omega) (by omega) (by omega) (by omega) (by omega))) (hfr 53 0 (by omega) (by omega) (by omega) (by omega) (by omega)) (fun i_ => (hfr 12 i_ (by omega) (by omega) (by omega) (by omega) (by omega))) (by omega) hn1 hn5 hwd.1 hwd.2) (gdC tb_963 (gdC tb_965 (gdC tb_28 (gdC tb_48 (gdC tb_966 gdB))))) ⟨ok_X10_passing, ⟨Nat.le_of_ble_eq_true rfl, Nat.le_of_ble_eq_true rfl⟩, rfl, rfl⟩ (PreV.of (C := RX10) (T := TX10) (N := 41) I (atM_model) rfl) rfl hl.1 rfl (Nat.le_of_ble_eq_true rfl) dX10_list_86 ⟨Nat.zero_le _, Nat.zero_le _⟩) (fun r62 S63 H locs q64 I => ?_)
              obtain ⟨e1_, e2_⟩ := q64
              rw [e2_] at I
              rw [e1_]
              clear e1_ e2_
              rcases Decidable.em (psL (fun z_ => (F 2) (12 * y + z_)) ((F 3 y)).toNat (F 12) ((F 53 0)).toNat = true) with b65 | b65
              · rw [bI_t b65]
                refine rz_eq (tgt := 100) X (by omega) dX10_list_89 (by decide) (fun c66 => absurd c66 (by decide)) (fun _ => ?_)
                refine lv_aload_n X.1 X.2.1 dX10_list_92 rfl (lv_at hl 0 rfl) ?_
                refine lv_iload_n X.1 X.2.1 dX10_list_93 rfl (lv_at hl 3 rfl) ?_
                refine cl_i I (runV (As := [.int (iI y)]) (rest := [.int (iI y), .ref (G.2.2 23)]) X (k_X10_sought l G (Z, S.2)  y (F 5 y) (F 57 0) (F 53 0) (F 12) (F 2) (F 4 y) (F 3 y) (F 7 0) (F 7 1) (F 7 2) (hfr 5 y (by omega) (by omega) (by omega) (by omega) (by omega)) (hfr 57 0 (by omega) (by omega) (by omega) (by omega) (by omega)) (hfr 53 0 (by omega) (by omega) (by omega) (by omega) (by omega)) (fun i_ => (hfr 12 i_ (by omega) (by omega) (by omega) (by omega) (by omega))) (fun i_ => (hfr 2 i_ (by omega) (by omega) (by omega) (by omega) (by omega))) (hfr 4 y (by omega) (by omega) (by omega) (by omega) (by omega)) (hfr 3 y (by omega) (by omega) (by omega) (by omega) (by omega)) (hfr 7 0 (by omega) (by omega) (by omega) (by omega) (by omega)) (hfr 7 1 (by omega) (by omega) (by omega) (by omega) (by omega)) (hfr 7 2 (by omega) (by omega) (by omega) (by omega) (by omega)) (by omega) hn3 hag hwd hn2 hn1 hn5 hw0 hw1 hw2 hKN) (gdC tb_920 (gdC tb_922 (gdC tb_20 (gdC tb_48 (gdC tb_923 gdB))))) ⟨ok_X10_sought, ⟨Nat.le_of_ble_eq_true rfl, Nat.le_of_ble_eq_true rfl⟩, rfl, rfl⟩ (PreV.of (C := RX10) (T := TX10) (N := 41) I (atM_model) rfl) rfl hl.1 rfl (Nat.le_of_ble_eq_true rfl) dX10_list_94 ⟨Nat.zero_le _, Nat.zero_le _⟩) (fun r67 S68 H locs q69 I => ?_)
                obtain ⟨hK2, hKf, hKr⟩ := q69
                obtain ⟨V1, V2⟩ := S68
                dsimp only at hK2 hKf hKr
                subst hK2
                rw [hKr]
                have hrs := resS_r (s := fun z_ => F 2 (12 * y + z_)) (f := F 12) (kd := F 4 y) (n := F 3 y) (m := F 53 0) hw0 hw1 hw2 (by omega) (by omega)
                have hkr := skM_r (di := F 5 y) (ag := F 57 0) (cd := cdv (F 12) (F 53 0).toNat) hKN hrs
                have hKV : KN V1 := KN_sk hKN hn3 hag hcr hrs hKf
                refine lv_goto (tgt := 102) X.1 X.2.1 dX10_list_97 (by decide) ?_
                refine qM_scores X I (by omega) dX10_list_102 (fun H locs I => ?_)
                have I : In (KM G) s s.heap H locs ((ua V1 23 y (skM Z (F 5 y) (F 57 0) (cdv (F 12) ((F 53 0)).toNat) (resS (fun z_ => (F 2) (12 * y + z_)) (F 12) (F 4 y) (F 7 0) (F 7 1) (F 7 2) (F 3 y) (F 53 0)).2.1).2), S.2) := I
                refine lv_aload_n X.1 X.2.1 dX10_list_103 rfl (lv_at hl 0 rfl) ?_
                refine gM_model_scores X I tb_730 dX10_list_104 ?_
                refine lv_iload_n X.1 X.2.1 dX10_list_107 rfl (lv_at hl 3 rfl) ?_
                refine aM_scores X I (v := (skM Z (F 5 y) (F 57 0) (cdv (F 12) ((F 53 0)).toNat) (resS (fun z_ => (F 2) (12 * y + z_)) (F 12) (F 4 y) (F 7 0) (F 7 1) (F 7 2) (F 3 y) (F 53 0)).2.1).2) (by show (ua V1 23 y (skM Z (F 5 y) (F 57 0) (cdv (F 12) ((F 53 0)).toNat) (resS (fun z_ => (F 2) (12 * y + z_)) (F 12) (F 4 y) (F 7 0) (F 7 1) (F 7 2) (F 3 y) (F 53 0)).2.1).2) 23 y = _; rw [ua_eq]) (by omega) dX10_list_108 ?_
                refine ri_push X (v := (-4)) (by decide) dX10_list_109 ?_
                refine rj_eq (tgt := 117) X (by omega) (by omega) dX10_list_111 (by decide) (fun c70 => ?_) (fun c70 => ?_)
                · skip
                  refine ri_iinc X (k := 3) (v := (y + 1)) (lv' := [(3, .int (iI (y + 1))), (0, .ref (G.2.2 0)), (1, .int (iI x)), (2, .int (iI (nnc (Z 23) y.toNat)))]) rfl dX10_list_117 hl rfl (by decide) rfl (fun ls hl => ?_)
                  refine lv_goto (tgt := 71) X.1 X.2.1 dX10_list_120 (by decide) ?_
                  have hl : lv_has ls 4 [(3, .int (iI (y + 1))), (0, .ref (G.2.2 0)), (1, .int (iI x)), (2, .int (iI (nnc ((ua V1 23 y (skM Z (F 5 y) (F 57 0) (cdv (F 12) ((F 53 0)).toNat) (resS (fun z_ => (F 2) (12 * y + z_)) (F 12) (F 4 y) (F 7 0) (F 7 1) (F 7 2) (F 3 y) (F 53 0)).2.1).2) 23) (y + 1).toNat)))] := by
                    have e_ : (nnc (Z 23) y.toNat) = (nnc ((ua V1 23 y (skM Z (F 5 y) (F 57 0) (cdv (F 12) ((F 53 0)).toNat) (resS (fun z_ => (F 2) (12 * y + z_)) (F 12) (F 4 y) (F 7 0) (F 7 1) (F 7 2) (F 3 y) (F 53 0)).2.1).2) 23) (y + 1).toNat) := by first | exact nnc_p (by omega) (by assumption) (fun j a b => by first | exact (hKf 23 j (by omega) (by omega) (by omega)).trans (skM_fr (by omega) (by omega) (by omega)) | rfl) | exact nnc_m (by omega) (by assumption) (fun j a b => by first | exact (hKf 23 j (by omega) (by omega) (by omega)).trans (skM_fr (by omega) (by omega) (by omega)) | rfl)
                    rw [← e_]; exact hl
                  exact ih_71 (y + 1) (ua V1 23 y (skM Z (F 5 y) (F 57 0) (cdv (F 12) ((F 53 0)).toNat) (resS (fun z_ => (F 2) (12 * y + z_)) (F 12) (F 4 y) (F 7 0) (F 7 1) (F 7 2) (F 3 y) (F 53 0)).2.1).2) (by omega) (by omega) (by first | exact skMA_y (by omega) hW (by assumption) hKf | exact skMA_n (by omega) hW (by assumption)) (fun c_ i h1 h2 h3 h4 h5 => by first | (rw [ua_nc (by omega)]; exact hfr c_ i h1 h2 h3 h4 h5) | (rw [ua_nc (by omega)]; exact ((hKf c_ i (by omega) h4 h5).trans (skM_fr (by omega) h2 h3)).trans (hfr c_ i h1 h2 h3 h4 h5))) (by first | exact KN_23 hKV | exact KN_23 hKN) (fun j h1 h2 => by
      rw [ua_at]
      by_cases q : j = y
      · rw [if_pos ⟨rfl, q⟩]; omega
      · rw [if_neg (by omega)]; first | exact hsr j h1 (by omega) | (rw [hKf 23 j (by omega) (by omega) (by omega), skM_fr (by omega) (by omega) (by omega)]; exact hsr j h1 (by omega))) _ _ I ls (lv_sub hl [1, 2, 3, 0] rfl)
                · skip
                  refine ri_iinc X (k := 2) (v := ((nnc (Z 23) y.toNat) + 1)) (lv' := [(2, .int (iI ((nnc (Z 23) y.toNat) + 1))), (0, .ref (G.2.2 0)), (1, .int (iI x)), (3, .int (iI y))]) rfl dX10_list_114 hl rfl (by decide) rfl (fun ls hl => ?_)
                  refine ri_iinc X (k := 3) (v := (y + 1)) (lv' := [(3, .int (iI (y + 1))), (2, .int (iI ((nnc (Z 23) y.toNat) + 1))), (0, .ref (G.2.2 0)), (1, .int (iI x))]) rfl dX10_list_117 hl rfl (by decide) rfl (fun ls hl => ?_)
                  refine lv_goto (tgt := 71) X.1 X.2.1 dX10_list_120 (by decide) ?_
                  have hl : lv_has ls 4 [(3, .int (iI (y + 1))), (2, .int (iI (nnc ((ua V1 23 y (skM Z (F 5 y) (F 57 0) (cdv (F 12) ((F 53 0)).toNat) (resS (fun z_ => (F 2) (12 * y + z_)) (F 12) (F 4 y) (F 7 0) (F 7 1) (F 7 2) (F 3 y) (F 53 0)).2.1).2) 23) (y + 1).toNat))), (0, .ref (G.2.2 0)), (1, .int (iI x))] := by
                    have e_ : ((nnc (Z 23) y.toNat) + 1) = (nnc ((ua V1 23 y (skM Z (F 5 y) (F 57 0) (cdv (F 12) ((F 53 0)).toNat) (resS (fun z_ => (F 2) (12 * y + z_)) (F 12) (F 4 y) (F 7 0) (F 7 1) (F 7 2) (F 3 y) (F 53 0)).2.1).2) 23) (y + 1).toNat) := by first | exact nnc_p (by omega) (by assumption) (fun j a b => by first | exact (hKf 23 j (by omega) (by omega) (by omega)).trans (skM_fr (by omega) (by omega) (by omega)) | rfl) | exact nnc_m (by omega) (by assumption) (fun j a b => by first | exact (hKf 23 j (by omega) (by omega) (by omega)).trans (skM_fr (by omega) (by omega) (by omega)) | rfl)
                    rw [← e_]; exact hl
                  exact ih_71 (y + 1) (ua V1 23 y (skM Z (F 5 y) (F 57 0) (cdv (F 12) ((F 53 0)).toNat) (resS (fun z_ => (F 2) (12 * y + z_)) (F 12) (F 4 y) (F 7 0) (F 7 1) (F 7 2) (F 3 y) (F 53 0)).2.1).2) (by omega) (by omega) (by first | exact skMA_y (by omega) hW (by assumption) hKf | exact skMA_n (by omega) hW (by assumption)) (fun c_ i h1 h2 h3 h4 h5 => by first | (rw [ua_nc (by omega)]; exact hfr c_ i h1 h2 h3 h4 h5) | (rw [ua_nc (by omega)]; exact ((hKf c_ i (by omega) h4 h5).trans (skM_fr (by omega) h2 h3)).trans (hfr c_ i h1 h2 h3 h4 h5))) (by first | exact KN_23 hKV | exact KN_23 hKN) (fun j h1 h2 => by
      rw [ua_at]
      by_cases q : j = y
      · rw [if_pos ⟨rfl, q⟩]; omega
      · rw [if_neg (by omega)]; first | exact hsr j h1 (by omega) | (rw [hKf 23 j (by omega) (by omega) (by omega), skM_fr (by omega) (by omega) (by omega)]; exact hsr j h1 (by omega))) _ _ I ls (lv_sub hl [2, 3, 1, 0] rfl)
              · rw [bI_f b65]
                refine rz_eq (tgt := 100) X (by omega) dX10_list_89 (by decide) (fun _ => ?_) (fun c71 => absurd c71 (fun q => q (by decide)))
                refine ri_push X (v := (-4)) (by decide) dX10_list_100 ?_
                refine qM_scores X I (by omega) dX10_list_102 (fun H locs I => ?_)
                have I : In (KM G) s s.heap H locs ((ua Z 23 y (-4)), S.2) := I
                refine lv_aload_n X.1 X.2.1 dX10_list_103 rfl (lv_at hl 0 rfl) ?_
                refine gM_model_scores X I tb_730 dX10_list_104 ?_
                refine lv_iload_n X.1 X.2.1 dX10_list_107 rfl (lv_at hl 3 rfl) ?_
                refine aM_scores X I (v := (-4)) (by show (ua Z 23 y (-4)) 23 y = _; rw [ua_eq]) (by omega) dX10_list_108 ?_
                refine ri_push X (v := (-4)) (by decide) dX10_list_109 ?_
                refine rj_eq (tgt := 117) X (by omega) (by omega) dX10_list_111 (by decide) (fun _ => ?_) (fun c72 => absurd c72 (fun q => q (by decide)))
                refine ri_iinc X (k := 3) (v := (y + 1)) (lv' := [(3, .int (iI (y + 1))), (0, .ref (G.2.2 0)), (1, .int (iI x)), (2, .int (iI (nnc (Z 23) y.toNat)))]) rfl dX10_list_117 hl rfl (by decide) rfl (fun ls hl => ?_)
                refine lv_goto (tgt := 71) X.1 X.2.1 dX10_list_120 (by decide) ?_
                have hl : lv_has ls 4 [(3, .int (iI (y + 1))), (0, .ref (G.2.2 0)), (1, .int (iI x)), (2, .int (iI (nnc ((ua Z 23 y (-4)) 23) (y + 1).toNat)))] := by
                  have e_ : (nnc (Z 23) y.toNat) = (nnc ((ua Z 23 y (-4)) 23) (y + 1).toNat) := by first | exact nnc_p (by omega) (by assumption) (fun j a b => by first | exact (hKf 23 j (by omega) (by omega) (by omega)).trans (skM_fr (by omega) (by omega) (by omega)) | rfl) | exact nnc_m (by omega) (by assumption) (fun j a b => by first | exact (hKf 23 j (by omega) (by omega) (by omega)).trans (skM_fr (by omega) (by omega) (by omega)) | rfl)
                  rw [← e_]; exact hl
                exact ih_71 (y + 1) (ua Z 23 y (-4)) (by omega) (by omega) (by first | exact skMA_y (by omega) hW (by assumption) hKf | exact skMA_n (by omega) hW (by assumption)) (fun c_ i h1 h2 h3 h4 h5 => by first | (rw [ua_nc (by omega)]; exact hfr c_ i h1 h2 h3 h4 h5) | (rw [ua_nc (by omega)]; exact ((hKf c_ i (by omega) h4 h5).trans (skM_fr (by omega) h2 h3)).trans (hfr c_ i h1 h2 h3 h4 h5))) (by first | exact KN_23 hKV | exact KN_23 hKN) (fun j h1 h2 => by
      rw [ua_at]
      by_cases q : j = y
      · rw [if_pos ⟨rfl, q⟩]; omega
      · rw [if_neg (by omega)]; first | exact hsr j h1 (by omega) | (rw [hKf 23 j (by omega) (by omega) (by omega), skM_fr (by omega) (by omega) (by omega)]; exact hsr j h1 (by omega))) _ _ I ls (lv_sub hl [1, 2, 3, 0] rfl)
        have hl : lv_has ls 4 [(3, .int (iI 0)), (2, .int (iI (nnc (F 23) (0 : Int).toNat))), (0, .ref (G.2.2 0)), (1, .int (iI x))] := by
          have e_ : 0 = (nnc (F 23) (0 : Int).toNat) := rfl
          rw [← e_]; exact hl
        exact lp_71 (9) 0 F (by omega) (by omega) (fun _ _ _ _ _ => rfl) (fun _ _ _ _ _ _ _ => rfl) (hKN) (fun j h1 h2 => absurd h2 (by omega)) _ _ I ls (lv_sub hl [2, 3, 1, 0] rfl)
  · skip
    refine ri_const X (v := (-1)) dX10_list_5 ?_
    exact rt_i X hr hlk I rfl (by exact Or.inl ⟨by omega, rfl, rfl⟩) dX10_list_6

theorem ok_X10_best : yX10_best.cls ≠ "java/lang/invoke/MethodHandle" ∧ yX10_best.cls ≠ "java/lang/invoke/VarHandle" ∧ (parseMethodDescriptor yX10_best.desc).map (fun d => d.parameters.length) = some 2 := ⟨by decide +kernel, by decide +kernel, by decide +kernel⟩
abbrev po_X10_best (S : St)  (x : Int) (u : Int) : Int → St → Prop := fun r S1 => S1.2 = S.2 ∧ (∀ (c_ : Nat) (i : Int), ¬ (20 ≤ c_ ∧ c_ ≤ 22) → ¬ c_ = 62 → ¬ c_ = 63 → S1.1 c_ i = S.1 c_ i) ∧ (((¬ (0 ≤ x ∧ x < S.1 51 0) ∨ u < 0) ∧ r = -1) ∨ ((0 ≤ x ∧ x < S.1 51 0) ∧ 0 ≤ u ∧ ((resS (fun z_ => (S.1 2) (12 * x + z_)) (S.1 12) (S.1 4 x) (S.1 7 0) (S.1 7 1) (S.1 7 2) (S.1 3 x) (S.1 53 0)).1 = 0 ∨ S.1 53 0 ≤ u) ∧ r = -4) ∨ ((0 ≤ x ∧ x < S.1 51 0) ∧ 0 ≤ u ∧ u < S.1 53 0 ∧ ¬ (resS (fun z_ => (S.1 2) (12 * x + z_)) (S.1 12) (S.1 4 x) (S.1 7 0) (S.1 7 1) (S.1 7 2) (S.1 3 x) (S.1 53 0)).1 = 0 ∧ ∃ a : Int → Int, lst a (S.1 53 0).toNat 0 = (resS (fun z_ => (S.1 2) (12 * x + z_)) (S.1 12) (S.1 4 x) (S.1 7 0) (S.1 7 1) (S.1 7 2) (S.1 3 x) (S.1 53 0)).2.2 ∧ r = a u))
abbrev rm_X10_best : Room := ({ frames := 5, cells := 0, slots := 0, locals := 111 } : Room)
set_option maxRecDepth 100000 in
set_option maxHeartbeats 4000000 in
theorem k_X10_best (l : Launch) (G : Ge) (S : St)  (x : Int) (u : Int)  (hx : -2147483648 ≤ x ∧ x < 2147483648) (hu : -2147483648 ≤ u ∧ u < 2147483648) (hI : MI S.1) : Ki (KM G) l yX10_best cX10_best 3 .int rm_X10_best [.ref (G.2.2 0), .int (iI x), .int (iI u)] S (po_X10_best S x u) := by
  refine K_start (own := "NameSeekerModel") (by decide +kernel) rfl (Nat.le_of_ble_eq_true rfl) ?_
  intro p e s m args below meth c X hr hlk I ls hl
  have hl : lv_has ls 3 [(0, .ref (G.2.2 0)), (1, .int (iI x)), (2, .int (iI u))] := hl
  obtain ⟨ht, hc, hn, hnm, hw, hwd, hkp, hcn, has, hkn⟩ := hI
  refine lv_aload_n X.1 X.2.1 dX10_best_0 rfl (lv_at hl 0 rfl) ?_
  refine lv_iload_n X.1 X.2.1 dX10_best_1 rfl (lv_at hl 1 rfl) ?_
  refine cl_i I (runV (As := [.int (iI x)]) (rest := []) X (k_X10_isName l G S  x (S.1 51 0) rfl (by omega) (by omega)) (gdC tb_867 (gdC tb_869 (gdC tb_18 (gdC tb_48 (gdC tb_870 gdB))))) ⟨ok_X10_isName, ⟨Nat.le_of_ble_eq_true rfl, Nat.le_of_ble_eq_true rfl⟩, rfl, rfl⟩ (PreV.of (C := RX10) (T := TX10) (N := 41) I (atM_model) rfl) rfl hl.1 rfl (Nat.le_of_ble_eq_true rfl) dX10_best_2 ⟨Nat.zero_le _, Nat.zero_le _⟩) (fun r1 S2 H locs q3 I => ?_)
  obtain ⟨e1_, e2_⟩ := q3
  rw [e2_] at I
  rw [e1_]
  clear e1_ e2_
  rcases Decidable.em ((0 ≤ x ∧ x < (S.1 51 0))) with b4 | b4
  · rw [bI_t b4]
    refine rz_eq (tgt := 12) X (by omega) dX10_best_5 (by decide) (fun c5 => absurd c5 (by decide)) (fun _ => ?_)
    refine lv_iload_n X.1 X.2.1 dX10_best_8 rfl (lv_at hl 2 rfl) ?_
    refine rz_ge (tgt := 14) X (by omega) dX10_best_9 (by decide) (fun c6 => ?_) (fun c6 => ?_)
    · skip
      have hnx := hnm x (by omega) (by omega)
      obtain ⟨hn1, hn2, hn3, hn4, hn5⟩ := hnx
      have hw0 := hw 0 (by omega) (by omega)
      have hw1 := hw 1 (by omega) (by omega)
      have hw2 := hw 2 (by omega) (by omega)
      have hkd := hn2
      have hn_ := hn1
      have hs := hn5
      have hb := hw0
      have hr_ := hw1
      have hg := hw2
      refine lv_aload_n X.1 X.2.1 dX10_best_14 rfl (lv_at hl 0 rfl) ?_
      refine cl_v I (runV (As := []) (rest := []) X (k_X10_triesWord l G S  (S.1 53 0) (S.1 12) rfl (fun i_ => rfl) hwd.1 hwd.2) (gdC tb_932 (gdC tb_934 (gdC tb_22 (gdC tb_48 (gdC tb_935 gdB))))) ⟨ok_X10_triesWord, ⟨Nat.le_of_ble_eq_true rfl, Nat.le_of_ble_eq_true rfl⟩, rfl, rfl⟩ (PreV.of (C := RX10) (T := TX10) (N := 41) I (atM_model) rfl) rfl hl.1 rfl (Nat.le_of_ble_eq_true rfl) dX10_best_15 ⟨Nat.zero_le _, Nat.zero_le _⟩) (fun S8 H locs q9 I => ?_)
      obtain ⟨hT2, hT62, hTw, hTf⟩ := q9
      obtain ⟨T1, T2⟩ := S8
      dsimp only at hT2 hT62 hTw hTf
      subst hT2
      refine lv_aload_n X.1 X.2.1 dX10_best_18 rfl (lv_at hl 0 rfl) ?_
      refine lv_iload_n X.1 X.2.1 dX10_best_19 rfl (lv_at hl 1 rfl) ?_
      refine cl_i I (runV (As := [.int (iI x)]) (rest := []) X (k_X10_waysOf l G (T1, S.2)  x (S.1 2) (S.1 4 x) (S.1 3 x) (S.1 53 0) (T1 20) (S.1 7 0) (S.1 7 1) (S.1 7 2) (fun i_ => (hTf 2 i_ (by omega) (by omega))) (hTf 4 x (by omega) (by omega)) (hTf 3 x (by omega) (by omega)) hT62 (fun i_ => rfl) (hTf 7 0 (by omega) (by omega)) (hTf 7 1 (by omega) (by omega)) (hTf 7 2 (by omega) (by omega)) (by omega) hkd hn_ hs hwd.1 (fun j a b => by first | (rw [hTw j a b]; exact hwd.2 j a b) | exact hwd.2 j a b) hb hr_ hg) (gdC tb_936 (gdC tb_938 (gdC tb_23 (gdC tb_48 (gdC tb_939 gdB))))) ⟨ok_X10_waysOf, ⟨Nat.le_of_ble_eq_true rfl, Nat.le_of_ble_eq_true rfl⟩, rfl, rfl⟩ (PreV.of (C := RX10) (T := TX10) (N := 41) I (atM_model) rfl) rfl hl.1 rfl (Nat.le_of_ble_eq_true rfl) dX10_best_20 ⟨Nat.zero_le _, Nat.zero_le _⟩) (fun r10 S11 H locs q12 I => ?_)
      obtain ⟨hW14, hW15, hW16, hW17, hW18, hW19, hW20⟩ := q12
      rw [resS_congr hTw] at hW14 hW16 hW17
      obtain ⟨V13, V2⟩ := S11
      dsimp only at hW15 hW16 hW17 hW19 hW20
      subst hW15
      subst hW14
      refine rz_eq (tgt := 34) X (by omega) dX10_best_23 (by decide) (fun c21 => ?_) (fun c21 => ?_)
      · skip
        refine ri_push X (v := (-4)) (by decide) dX10_best_34 ?_
        exact rt_i X hr hlk I rfl (by exact ⟨rfl, (fun c_ i h1 h2 h3 => (hW20 c_ i (by omega) (by omega) h3).trans (hTf c_ i (by omega) h2)), Or.inr (Or.inl ⟨by omega, by omega, by omega, rfl⟩)⟩) dX10_best_36
      · skip
        refine lv_iload_n X.1 X.2.1 dX10_best_26 rfl (lv_at hl 2 rfl) ?_
        refine lv_aload_n X.1 X.2.1 dX10_best_27 rfl (lv_at hl 0 rfl) ?_
        refine gM_model_triedSize X I (v := (S.1 53 0)) ((hW20 62 0 (by omega) (by omega) (by omega)).trans hT62) tb_725 dX10_best_28 ?_
        refine rj_lt (tgt := 37) X (by omega) (by omega) dX10_best_31 (by decide) (fun c22 => ?_) (fun c22 => ?_)
        · skip
          refine lv_aload_n X.1 X.2.1 dX10_best_37 rfl (lv_at hl 0 rfl) ?_
          refine gM_model_bestAt X I tb_728 dX10_best_38 ?_
          refine lv_iload_n X.1 X.2.1 dX10_best_41 rfl (lv_at hl 2 rfl) ?_
          refine aM_bestAt X I (v := (V13 22 u)) rfl (by omega) dX10_best_42 ?_
          exact rt_i X hr hlk I rfl (by exact ⟨rfl, (fun c_ i h1 h2 h3 => (hW20 c_ i (by omega) (by omega) h3).trans (hTf c_ i (by omega) h2)), Or.inr (Or.inr ⟨by omega, by omega, by omega, by assumption, V13 22, hW17 (by assumption), rfl⟩)⟩) dX10_best_43
        · skip
          refine ri_push X (v := (-4)) (by decide) dX10_best_34 ?_
          exact rt_i X hr hlk I rfl (by exact ⟨rfl, (fun c_ i h1 h2 h3 => (hW20 c_ i (by omega) (by omega) h3).trans (hTf c_ i (by omega) h2)), Or.inr (Or.inl ⟨by omega, by omega, by omega, rfl⟩)⟩) dX10_best_36
    · skip
      refine ri_const X (v := (-1)) dX10_best_12 ?_
      exact rt_i X hr hlk I rfl (by exact ⟨rfl, fun _ _ _ _ _ => rfl, Or.inl ⟨by omega, rfl⟩⟩) dX10_best_13
  · rw [bI_f b4]
    refine rz_eq (tgt := 12) X (by omega) dX10_best_5 (by decide) (fun _ => ?_) (fun c23 => absurd c23 (fun q => q (by decide)))
    refine ri_const X (v := (-1)) dX10_best_12 ?_
    exact rt_i X hr hlk I rfl (by exact ⟨rfl, fun _ _ _ _ _ => rfl, Or.inl ⟨by omega, rfl⟩⟩) dX10_best_13

theorem ok_X10_ways : yX10_ways.cls ≠ "java/lang/invoke/MethodHandle" ∧ yX10_ways.cls ≠ "java/lang/invoke/VarHandle" ∧ (parseMethodDescriptor yX10_ways.desc).map (fun d => d.parameters.length) = some 1 := ⟨by decide +kernel, by decide +kernel, by decide +kernel⟩
abbrev po_X10_ways (S : St)  (x : Int) : Int → St → Prop := fun r S1 => (¬ (0 ≤ x ∧ x < S.1 51 0) ∧ r = -1 ∧ S1 = S) ∨ ((0 ≤ x ∧ x < S.1 51 0) ∧ S1.2 = S.2 ∧ (∀ (c_ : Nat) (i : Int), ¬ (20 ≤ c_ ∧ c_ ≤ 22) → ¬ c_ = 62 → ¬ c_ = 63 → S1.1 c_ i = S.1 c_ i) ∧ r = (resS (fun z_ => (S.1 2) (12 * x + z_)) (S.1 12) (S.1 4 x) (S.1 7 0) (S.1 7 1) (S.1 7 2) (S.1 3 x) (S.1 53 0)).1)
abbrev rm_X10_ways : Room := ({ frames := 5, cells := 0, slots := 0, locals := 111 } : Room)
set_option maxRecDepth 100000 in
set_option maxHeartbeats 4000000 in
theorem k_X10_ways (l : Launch) (G : Ge) (S : St)  (x : Int)  (hx : -2147483648 ≤ x ∧ x < 2147483648) (hI : MI S.1) : Ki (KM G) l yX10_ways cX10_ways 2 .int rm_X10_ways [.ref (G.2.2 0), .int (iI x)] S (po_X10_ways S x) := by
  refine K_start (own := "NameSeekerModel") (by decide +kernel) rfl (Nat.le_of_ble_eq_true rfl) ?_
  intro p e s m args below meth c X hr hlk I ls hl
  have hl : lv_has ls 2 [(0, .ref (G.2.2 0)), (1, .int (iI x))] := hl
  obtain ⟨ht, hc, hn, hnm, hw, hwd, hkp, hcn, has, hkn⟩ := hI
  refine lv_aload_n X.1 X.2.1 dX10_ways_0 rfl (lv_at hl 0 rfl) ?_
  refine lv_iload_n X.1 X.2.1 dX10_ways_1 rfl (lv_at hl 1 rfl) ?_
  refine cl_i I (runV (As := [.int (iI x)]) (rest := []) X (k_X10_isName l G S  x (S.1 51 0) rfl (by omega) (by omega)) (gdC tb_867 (gdC tb_869 (gdC tb_18 (gdC tb_48 (gdC tb_870 gdB))))) ⟨ok_X10_isName, ⟨Nat.le_of_ble_eq_true rfl, Nat.le_of_ble_eq_true rfl⟩, rfl, rfl⟩ (PreV.of (C := RX10) (T := TX10) (N := 41) I (atM_model) rfl) rfl hl.1 rfl (Nat.le_of_ble_eq_true rfl) dX10_ways_2 ⟨Nat.zero_le _, Nat.zero_le _⟩) (fun r1 S2 H locs q3 I => ?_)
  obtain ⟨e1_, e2_⟩ := q3
  rw [e2_] at I
  rw [e1_]
  clear e1_ e2_
  rcases Decidable.em ((0 ≤ x ∧ x < (S.1 51 0))) with b4 | b4
  · rw [bI_t b4]
    refine rz_ne (tgt := 10) X (by omega) dX10_ways_5 (by decide) (fun _ => ?_) (fun c5 => absurd c5 (by decide))
    have hnx := hnm x (by omega) (by omega)
    obtain ⟨hn1, hn2, hn3, hn4, hn5⟩ := hnx
    have hw0 := hw 0 (by omega) (by omega)
    have hw1 := hw 1 (by omega) (by omega)
    have hw2 := hw 2 (by omega) (by omega)
    have hkd := hn2
    have hn_ := hn1
    have hs := hn5
    have hb := hw0
    have hr_ := hw1
    have hg := hw2
    refine lv_aload_n X.1 X.2.1 dX10_ways_10 rfl (lv_at hl 0 rfl) ?_
    refine cl_v I (runV (As := []) (rest := []) X (k_X10_triesWord l G S  (S.1 53 0) (S.1 12) rfl (fun i_ => rfl) hwd.1 hwd.2) (gdC tb_932 (gdC tb_934 (gdC tb_22 (gdC tb_48 (gdC tb_935 gdB))))) ⟨ok_X10_triesWord, ⟨Nat.le_of_ble_eq_true rfl, Nat.le_of_ble_eq_true rfl⟩, rfl, rfl⟩ (PreV.of (C := RX10) (T := TX10) (N := 41) I (atM_model) rfl) rfl hl.1 rfl (Nat.le_of_ble_eq_true rfl) dX10_ways_11 ⟨Nat.zero_le _, Nat.zero_le _⟩) (fun S7 H locs q8 I => ?_)
    obtain ⟨hT2, hT62, hTw, hTf⟩ := q8
    obtain ⟨T1, T2⟩ := S7
    dsimp only at hT2 hT62 hTw hTf
    subst hT2
    refine lv_aload_n X.1 X.2.1 dX10_ways_14 rfl (lv_at hl 0 rfl) ?_
    refine lv_iload_n X.1 X.2.1 dX10_ways_15 rfl (lv_at hl 1 rfl) ?_
    refine cl_i I (runV (As := [.int (iI x)]) (rest := []) X (k_X10_waysOf l G (T1, S.2)  x (S.1 2) (S.1 4 x) (S.1 3 x) (S.1 53 0) (T1 20) (S.1 7 0) (S.1 7 1) (S.1 7 2) (fun i_ => (hTf 2 i_ (by omega) (by omega))) (hTf 4 x (by omega) (by omega)) (hTf 3 x (by omega) (by omega)) hT62 (fun i_ => rfl) (hTf 7 0 (by omega) (by omega)) (hTf 7 1 (by omega) (by omega)) (hTf 7 2 (by omega) (by omega)) (by omega) hkd hn_ hs hwd.1 (fun j a b => by first | (rw [hTw j a b]; exact hwd.2 j a b) | exact hwd.2 j a b) hb hr_ hg) (gdC tb_936 (gdC tb_938 (gdC tb_23 (gdC tb_48 (gdC tb_939 gdB))))) ⟨ok_X10_waysOf, ⟨Nat.le_of_ble_eq_true rfl, Nat.le_of_ble_eq_true rfl⟩, rfl, rfl⟩ (PreV.of (C := RX10) (T := TX10) (N := 41) I (atM_model) rfl) rfl hl.1 rfl (Nat.le_of_ble_eq_true rfl) dX10_ways_16 ⟨Nat.zero_le _, Nat.zero_le _⟩) (fun r9 S10 H locs q11 I => ?_)
    obtain ⟨hW13, hW14, hW15, hW16, hW17, hW18, hW19⟩ := q11
    rw [resS_congr hTw] at hW13 hW15 hW16
    obtain ⟨V12, V2⟩ := S10
    dsimp only at hW14 hW15 hW16 hW18 hW19
    subst hW14
    subst hW13
    exact rt_i X hr hlk I rfl (by exact Or.inr ⟨by assumption, rfl, (fun c_ i h1 h2 h3 => (hW19 c_ i (by omega) (by omega) h3).trans (hTf c_ i (by omega) h2)), rfl⟩) dX10_ways_19
  · rw [bI_f b4]
    refine rz_ne (tgt := 10) X (by omega) dX10_ways_5 (by decide) (fun c20 => absurd c20 (by decide)) (fun _ => ?_)
    refine ri_const X (v := (-1)) dX10_ways_8 ?_
    exact rt_i X hr hlk I rfl (by exact Or.inl ⟨by omega, rfl, rfl⟩) dX10_ways_9

theorem ok_X10_passes : yX10_passes.cls ≠ "java/lang/invoke/MethodHandle" ∧ yX10_passes.cls ≠ "java/lang/invoke/VarHandle" ∧ (parseMethodDescriptor yX10_passes.desc).map (fun d => d.parameters.length) = some 1 := ⟨by decide +kernel, by decide +kernel, by decide +kernel⟩
abbrev po_X10_passes (S : St)  (x : Int) : Int → St → Prop := fun r S1 => S1.2 = S.2 ∧ (∀ (c_ : Nat) (i : Int), ¬ (20 ≤ c_ ∧ c_ ≤ 22) → ¬ c_ = 62 → ¬ c_ = 63 → S1.1 c_ i = S.1 c_ i) ∧ ((¬ (x = 0 ∨ x = 1) ∧ r = -1) ∨ ((x = 0 ∨ x = 1) ∧ r = psb (fun v_ => (x = 0 ∧ psL (fun z_ => S.1 2 (12 * v_ + z_)) (S.1 3 v_).toNat (S.1 12) (S.1 53 0).toNat = true) ∨ (x = 1 ∧ 0 < (resS (fun z_ => (S.1 2) (12 * v_ + z_)) (S.1 12) (S.1 4 v_) (S.1 7 0) (S.1 7 1) (S.1 7 2) (S.1 3 v_) (S.1 53 0)).1)) (S.1 51 0).toNat))
abbrev rm_X10_passes : Room := ({ frames := 5, cells := 0, slots := 0, locals := 111 } : Room)
set_option maxRecDepth 100000 in
set_option maxHeartbeats 4000000 in
theorem k_X10_passes (l : Launch) (G : Ge) (S : St)  (x : Int)  (hx : -2147483648 ≤ x ∧ x < 2147483648) (hI : MI S.1) : Ki (KM G) l yX10_passes cX10_passes 5 .int rm_X10_passes [.ref (G.2.2 0), .int (iI x)] S (po_X10_passes S x) := by
  refine K_start (own := "NameSeekerModel") (by decide +kernel) rfl (Nat.le_of_ble_eq_true rfl) ?_
  intro p e s m args below meth c X hr hlk I ls hl
  have hl : lv_has ls 5 [(0, .ref (G.2.2 0)), (1, .int (iI x))] := hl
  obtain ⟨ht, hc, hn, hnm, hw, hwd, hkp, hcn, has, hkn⟩ := hI
  refine lv_iload_n X.1 X.2.1 dX10_passes_0 rfl (lv_at hl 1 rfl) ?_
  refine rz_eq (tgt := 11) X (by omega) dX10_passes_1 (by decide) (fun c1 => ?_) (fun c1 => ?_)
  · skip
    have hw0 := hw 0 (by omega) (by omega)
    have hw1 := hw 1 (by omega) (by omega)
    have hw2 := hw 2 (by omega) (by omega)
    refine lv_aload_n X.1 X.2.1 dX10_passes_11 rfl (lv_at hl 0 rfl) ?_
    refine cl_v I (runV (As := []) (rest := []) X (k_X10_triesWord l G S  (S.1 53 0) (S.1 12) rfl (fun i_ => rfl) hwd.1 hwd.2) (gdC tb_932 (gdC tb_934 (gdC tb_22 (gdC tb_48 (gdC tb_935 gdB))))) ⟨ok_X10_triesWord, ⟨Nat.le_of_ble_eq_true rfl, Nat.le_of_ble_eq_true rfl⟩, rfl, rfl⟩ (PreV.of (C := RX10) (T := TX10) (N := 41) I (atM_model) rfl) rfl hl.1 rfl (Nat.le_of_ble_eq_true rfl) dX10_passes_12 ⟨Nat.zero_le _, Nat.zero_le _⟩) (fun S3 H locs q4 I => ?_)
    obtain ⟨hT2, hT62, hTw, hTf⟩ := q4
    obtain ⟨T1, T2⟩ := S3
    dsimp only at hT2 hT62 hTw hTf
    subst hT2
    refine ri_const X (v := 0) dX10_passes_15 ?_
    refine lv_istore_n (lv' := [(2, .int (iI 0)), (0, .ref (G.2.2 0)), (1, .int (iI x))]) X.1 X.2.1 dX10_passes_16 rfl hl (by decide) rfl (fun ls hl => ?_)
    refine ri_const X (v := 0) dX10_passes_17 ?_
    refine lv_istore_n (lv' := [(3, .int (iI 0)), (2, .int (iI 0)), (0, .ref (G.2.2 0)), (1, .int (iI x))]) X.1 X.2.1 dX10_passes_18 rfl hl (by decide) rfl (fun ls hl => ?_)
    have lp_19 : ∀ (fu_ : Nat) (y : Int) (Z : Nat → Int → Int), (8 - y).toNat < fu_ → ∀ (hy : 0 ≤ y ∧ y ≤ S.1 51 0) (hfr : ∀ (c_ : Nat) (i : Int), ¬ (20 ≤ c_ ∧ c_ ≤ 22) → ¬ c_ = 62 → ¬ c_ = 63 → Z c_ i = S.1 c_ i) (hW62 : Z 62 0 = S.1 53 0) (hTw : ∀ i : Int, 0 ≤ i → i < S.1 53 0 → Z 20 i = S.1 12 i) (H : Heap) (locs : List Loc), In (KM G) s s.heap H locs (Z, S.2) → ∀ ls : Array Slot, lv_has ls 5 [(0, .ref (G.2.2 0)), (1, .int (iI x)), (2, .int (iI (psb (fun v_ => (x = 0 ∧ psL (fun z_ => S.1 2 (12 * v_ + z_)) (S.1 3 v_).toNat (S.1 12) (S.1 53 0).toNat = true) ∨ (x = 1 ∧ 0 < (resS (fun z_ => (S.1 2) (12 * v_ + z_)) (S.1 12) (S.1 4 v_) (S.1 7 0) (S.1 7 1) (S.1 7 2) (S.1 3 v_) (S.1 53 0)).1)) y.toNat))), (3, .int (iI y))] → W p l e rm_X10_passes s m args below meth c H locs 0 0 (MQ below (QI (KM G) (po_X10_passes S x)) args s 0 0 (KM G).2.2.2) (F0 m 19 ls []) := by
      intro fu_
      induction fu_ with
      | zero => intro y Z hm; exact absurd hm (by omega)
      | succ fu_ ih_19 =>
        intro y Z hm_19 hy hfr hW62 hTw H locs I ls hl
        refine lv_iload_n X.1 X.2.1 dX10_passes_19 rfl (lv_at hl 3 rfl) ?_
        refine lv_aload_n X.1 X.2.1 dX10_passes_20 rfl (lv_at hl 0 rfl) ?_
        refine gM_model_names X I (v := (S.1 51 0)) (hfr 51 0 (by omega) (by omega) (by omega)) tb_696 dX10_passes_21 ?_
        refine rj_ge (tgt := 71) X (by omega) (by omega) dX10_passes_24 (by decide) (fun c5 => ?_) (fun c5 => ?_)
        · skip
          have e_y : S.1 51 0 = y := by omega
          refine lv_iload_n X.1 X.2.1 dX10_passes_71 rfl (lv_at hl 2 rfl) ?_
          exact rt_i X hr hlk I rfl (by exact ⟨rfl, hfr, Or.inr ⟨by omega, by rw [e_y]⟩⟩) dX10_passes_72
        · skip
          have hny := hnm y (by omega) (by omega)
          obtain ⟨hn1, hn2, hn3, hn4, hn5⟩ := hny
          have hkd := hn2
          have hn_ := hn1
          have hs := hn5
          have hb := hw0
          have hr_ := hw1
          have hg := hw2
          have hbr := psb_r (fun v_ => (x = 0 ∧ psL (fun z_ => S.1 2 (12 * v_ + z_)) (S.1 3 v_).toNat (S.1 12) (S.1 53 0).toNat = true) ∨ (x = 1 ∧ 0 < (resS (fun z_ => (S.1 2) (12 * v_ + z_)) (S.1 12) (S.1 4 v_) (S.1 7 0) (S.1 7 1) (S.1 7 2) (S.1 3 v_) (S.1 53 0)).1)) y.toNat (by omega)
          refine lv_iload_n X.1 X.2.1 dX10_passes_27 rfl (lv_at hl 1 rfl) ?_
          refine rz_ne (tgt := 39) X (by omega) dX10_passes_28 (by decide) (fun c6 => ?_) (fun c6 => ?_)
          · skip
            refine lv_aload_n X.1 X.2.1 dX10_passes_39 rfl (lv_at hl 0 rfl) ?_
            refine lv_iload_n X.1 X.2.1 dX10_passes_40 rfl (lv_at hl 3 rfl) ?_
            refine cl_i I (runV (As := [.int (iI y)]) (rest := []) X (k_X10_waysOf l G (Z, S.2)  y (S.1 2) (S.1 4 y) (S.1 3 y) (S.1 53 0) (Z 20) (S.1 7 0) (S.1 7 1) (S.1 7 2) (fun i_ => (hfr 2 i_ (by omega) (by omega) (by omega))) (hfr 4 y (by omega) (by omega) (by omega)) (hfr 3 y (by omega) (by omega) (by omega)) hW62 (fun i_ => rfl) (hfr 7 0 (by omega) (by omega) (by omega)) (hfr 7 1 (by omega) (by omega) (by omega)) (hfr 7 2 (by omega) (by omega) (by omega)) (by omega) hkd hn_ hs hwd.1 (fun j a b => by first | (rw [hTw j a b]; exact hwd.2 j a b) | exact hwd.2 j a b) hb hr_ hg) (gdC tb_936 (gdC tb_938 (gdC tb_23 (gdC tb_48 (gdC tb_939 gdB))))) ⟨ok_X10_waysOf, ⟨Nat.le_of_ble_eq_true rfl, Nat.le_of_ble_eq_true rfl⟩, rfl, rfl⟩ (PreV.of (C := RX10) (T := TX10) (N := 41) I (atM_model) rfl) rfl hl.1 rfl (Nat.le_of_ble_eq_true rfl) dX10_passes_41 ⟨Nat.zero_le _, Nat.zero_le _⟩) (fun r7 S8 H locs q9 I => ?_)
            unfold po_X10_waysOf at q9
            rw [resS_congr hTw] at q9
            obtain ⟨hW11, hW12, hW13, hW14, hW15, hW16, hW17⟩ := q9
            obtain ⟨V10, V2⟩ := S8
            dsimp only at hW12 hW13 hW14 hW16 hW17
            subst hW12
            subst hW11
            refine rz_le (tgt := 51) X (by omega) dX10_passes_44 (by decide) (fun c18 => ?_) (fun c18 => ?_)
            · skip
              refine ri_const X (v := 0) dX10_passes_51 ?_
              refine lv_istore (lv' := [(4, .int (iI 0)), (0, .ref (G.2.2 0)), (1, .int (iI x)), (2, .int (iI (psb (fun v_ => (x = 0 ∧ psL (fun z_ => S.1 2 (12 * v_ + z_)) (S.1 3 v_).toNat (S.1 12) (S.1 53 0).toNat = true) ∨ (x = 1 ∧ 0 < (resS (fun z_ => (S.1 2) (12 * v_ + z_)) (S.1 12) (S.1 4 v_) (S.1 7 0) (S.1 7 1) (S.1 7 2) (S.1 3 v_) (S.1 53 0)).1)) y.toNat))), (3, .int (iI y))]) X.1 X.2.1 dX10_passes_52 hl (by decide) rfl (fun ls hl => ?_)
              refine lv_iload X.1 X.2.1 dX10_passes_54 (lv_at hl 0 rfl) ?_
              refine rz_eq (tgt := 65) X (by omega) dX10_passes_56 (by decide) (fun _ => ?_) (fun c19 => absurd c19 (fun q => q (by decide)))
              have hfr2 : ∀ (c_ : Nat) (i : Int), ¬ (20 ≤ c_ ∧ c_ ≤ 22) → ¬ c_ = 62 → ¬ c_ = 63 → V10 c_ i = S.1 c_ i := fun c_ i h1 h2 h3 => (hW17 c_ i (by omega) (by omega) h3).trans (hfr c_ i h1 h2 h3)
              have hV62 : V10 62 0 = S.1 53 0 := (hW17 62 0 (by omega) (by omega) (by omega)).trans hW62
              have hVw : ∀ i : Int, 0 ≤ i → i < S.1 53 0 → V10 20 i = S.1 12 i := fun i h1 h2 => (hW17 20 i (by omega) (by omega) (by omega)).trans (hTw i h1 h2)
              refine ri_iinc X (k := 4) (v := (y + 1)) (lv' := [(3, .int (iI (y + 1))), (4, .int (iI 0)), (0, .ref (G.2.2 0)), (1, .int (iI x)), (2, .int (iI (psb (fun v_ => (x = 0 ∧ psL (fun z_ => S.1 2 (12 * v_ + z_)) (S.1 3 v_).toNat (S.1 12) (S.1 53 0).toNat = true) ∨ (x = 1 ∧ 0 < (resS (fun z_ => (S.1 2) (12 * v_ + z_)) (S.1 12) (S.1 4 v_) (S.1 7 0) (S.1 7 1) (S.1 7 2) (S.1 3 v_) (S.1 53 0)).1)) y.toNat)))]) rfl dX10_passes_65 hl rfl (by decide) rfl (fun ls hl => ?_)
              refine lv_goto (tgt := 19) X.1 X.2.1 dX10_passes_68 (by decide) ?_
              have hl : lv_has ls 5 [(3, .int (iI (y + 1))), (4, .int (iI 0)), (0, .ref (G.2.2 0)), (1, .int (iI x)), (2, .int (iI (psb (fun v_ => (x = 0 ∧ psL (fun z_ => S.1 2 (12 * v_ + z_)) (S.1 3 v_).toNat (S.1 12) (S.1 53 0).toNat = true) ∨ (x = 1 ∧ 0 < (resS (fun z_ => (S.1 2) (12 * v_ + z_)) (S.1 12) (S.1 4 v_) (S.1 7 0) (S.1 7 1) (S.1 7 2) (S.1 3 v_) (S.1 53 0)).1)) (y + 1).toNat)))] := by
                have e_ : (psb (fun v_ => (x = 0 ∧ psL (fun z_ => S.1 2 (12 * v_ + z_)) (S.1 3 v_).toNat (S.1 12) (S.1 53 0).toNat = true) ∨ (x = 1 ∧ 0 < (resS (fun z_ => (S.1 2) (12 * v_ + z_)) (S.1 12) (S.1 4 v_) (S.1 7 0) (S.1 7 1) (S.1 7 2) (S.1 3 v_) (S.1 53 0)).1)) y.toNat) = (psb (fun v_ => (x = 0 ∧ psL (fun z_ => S.1 2 (12 * v_ + z_)) (S.1 3 v_).toNat (S.1 12) (S.1 53 0).toNat = true) ∨ (x = 1 ∧ 0 < (resS (fun z_ => (S.1 2) (12 * v_ + z_)) (S.1 12) (S.1 4 v_) (S.1 7 0) (S.1 7 1) (S.1 7 2) (S.1 3 v_) (S.1 53 0)).1)) (y + 1).toNat) := by first | exact psb_a (by omega) (Or.inl ⟨by omega, by assumption⟩) | exact psb_a (by omega) (Or.inr ⟨by omega, by omega⟩) | exact psb_n (by omega) (fun z => by rcases z with z | z; exact absurd z.2 (by assumption); omega) | exact psb_n (by omega) (fun z => by rcases z with z | z <;> omega)
                rw [← e_]; exact hl
              exact ih_19 (y + 1) V10 (by omega) (by omega) (hfr2) (hV62) (hVw) _ _ I ls (lv_sub hl [2, 3, 4, 0] rfl)
            · skip
              refine ri_const X (v := 1) dX10_passes_47 ?_
              refine lv_goto (tgt := 52) X.1 X.2.1 dX10_passes_48 (by decide) ?_
              refine lv_istore (lv' := [(4, .int (iI 1)), (0, .ref (G.2.2 0)), (1, .int (iI x)), (2, .int (iI (psb (fun v_ => (x = 0 ∧ psL (fun z_ => S.1 2 (12 * v_ + z_)) (S.1 3 v_).toNat (S.1 12) (S.1 53 0).toNat = true) ∨ (x = 1 ∧ 0 < (resS (fun z_ => (S.1 2) (12 * v_ + z_)) (S.1 12) (S.1 4 v_) (S.1 7 0) (S.1 7 1) (S.1 7 2) (S.1 3 v_) (S.1 53 0)).1)) y.toNat))), (3, .int (iI y))]) X.1 X.2.1 dX10_passes_52 hl (by decide) rfl (fun ls hl => ?_)
              refine lv_iload X.1 X.2.1 dX10_passes_54 (lv_at hl 0 rfl) ?_
              refine rz_eq (tgt := 65) X (by omega) dX10_passes_56 (by decide) (fun c20 => absurd c20 (by decide)) (fun _ => ?_)
              refine lv_iload_n X.1 X.2.1 dX10_passes_59 rfl (lv_at hl 3 rfl) ?_
              refine ri_const X (v := 1) dX10_passes_60 ?_
              refine lv_iload_n X.1 X.2.1 dX10_passes_61 rfl (lv_at hl 4 rfl) ?_
              refine ri_shl X (by omega) dX10_passes_62 ?_
              have t21 := pw_r (k := y) (by omega)
              refine ri_add X (v := ((psb (fun v_ => (x = 0 ∧ psL (fun z_ => S.1 2 (12 * v_ + z_)) (S.1 3 v_).toNat (S.1 12) (S.1 53 0).toNat = true) ∨ (x = 1 ∧ 0 < (resS (fun z_ => (S.1 2) (12 * v_ + z_)) (S.1 12) (S.1 4 v_) (S.1 7 0) (S.1 7 1) (S.1 7 2) (S.1 3 v_) (S.1 53 0)).1)) y.toNat) + (pw y))) rfl dX10_passes_63 ?_
              refine lv_istore_n (lv' := [(2, .int (iI ((psb (fun v_ => (x = 0 ∧ psL (fun z_ => S.1 2 (12 * v_ + z_)) (S.1 3 v_).toNat (S.1 12) (S.1 53 0).toNat = true) ∨ (x = 1 ∧ 0 < (resS (fun z_ => (S.1 2) (12 * v_ + z_)) (S.1 12) (S.1 4 v_) (S.1 7 0) (S.1 7 1) (S.1 7 2) (S.1 3 v_) (S.1 53 0)).1)) y.toNat) + (pw y)))), (4, .int (iI 1)), (0, .ref (G.2.2 0)), (1, .int (iI x)), (3, .int (iI y))]) X.1 X.2.1 dX10_passes_64 rfl hl (by decide) rfl (fun ls hl => ?_)
              have hfr2 : ∀ (c_ : Nat) (i : Int), ¬ (20 ≤ c_ ∧ c_ ≤ 22) → ¬ c_ = 62 → ¬ c_ = 63 → V10 c_ i = S.1 c_ i := fun c_ i h1 h2 h3 => (hW17 c_ i (by omega) (by omega) h3).trans (hfr c_ i h1 h2 h3)
              have hV62 : V10 62 0 = S.1 53 0 := (hW17 62 0 (by omega) (by omega) (by omega)).trans hW62
              have hVw : ∀ i : Int, 0 ≤ i → i < S.1 53 0 → V10 20 i = S.1 12 i := fun i h1 h2 => (hW17 20 i (by omega) (by omega) (by omega)).trans (hTw i h1 h2)
              refine ri_iinc X (k := 4) (v := (y + 1)) (lv' := [(3, .int (iI (y + 1))), (2, .int (iI ((psb (fun v_ => (x = 0 ∧ psL (fun z_ => S.1 2 (12 * v_ + z_)) (S.1 3 v_).toNat (S.1 12) (S.1 53 0).toNat = true) ∨ (x = 1 ∧ 0 < (resS (fun z_ => (S.1 2) (12 * v_ + z_)) (S.1 12) (S.1 4 v_) (S.1 7 0) (S.1 7 1) (S.1 7 2) (S.1 3 v_) (S.1 53 0)).1)) y.toNat) + (pw y)))), (4, .int (iI 1)), (0, .ref (G.2.2 0)), (1, .int (iI x))]) rfl dX10_passes_65 hl rfl (by decide) rfl (fun ls hl => ?_)
              refine lv_goto (tgt := 19) X.1 X.2.1 dX10_passes_68 (by decide) ?_
              have hl : lv_has ls 5 [(3, .int (iI (y + 1))), (2, .int (iI (psb (fun v_ => (x = 0 ∧ psL (fun z_ => S.1 2 (12 * v_ + z_)) (S.1 3 v_).toNat (S.1 12) (S.1 53 0).toNat = true) ∨ (x = 1 ∧ 0 < (resS (fun z_ => (S.1 2) (12 * v_ + z_)) (S.1 12) (S.1 4 v_) (S.1 7 0) (S.1 7 1) (S.1 7 2) (S.1 3 v_) (S.1 53 0)).1)) (y + 1).toNat))), (4, .int (iI 1)), (0, .ref (G.2.2 0)), (1, .int (iI x))] := by
                have e_ : ((psb (fun v_ => (x = 0 ∧ psL (fun z_ => S.1 2 (12 * v_ + z_)) (S.1 3 v_).toNat (S.1 12) (S.1 53 0).toNat = true) ∨ (x = 1 ∧ 0 < (resS (fun z_ => (S.1 2) (12 * v_ + z_)) (S.1 12) (S.1 4 v_) (S.1 7 0) (S.1 7 1) (S.1 7 2) (S.1 3 v_) (S.1 53 0)).1)) y.toNat) + (pw y)) = (psb (fun v_ => (x = 0 ∧ psL (fun z_ => S.1 2 (12 * v_ + z_)) (S.1 3 v_).toNat (S.1 12) (S.1 53 0).toNat = true) ∨ (x = 1 ∧ 0 < (resS (fun z_ => (S.1 2) (12 * v_ + z_)) (S.1 12) (S.1 4 v_) (S.1 7 0) (S.1 7 1) (S.1 7 2) (S.1 3 v_) (S.1 53 0)).1)) (y + 1).toNat) := by first | exact psb_a (by omega) (Or.inl ⟨by omega, by assumption⟩) | exact psb_a (by omega) (Or.inr ⟨by omega, by omega⟩) | exact psb_n (by omega) (fun z => by rcases z with z | z; exact absurd z.2 (by assumption); omega) | exact psb_n (by omega) (fun z => by rcases z with z | z <;> omega)
                rw [← e_]; exact hl
              exact ih_19 (y + 1) V10 (by omega) (by omega) (hfr2) (hV62) (hVw) _ _ I ls (lv_sub hl [3, 4, 1, 0] rfl)
          · skip
            refine lv_aload_n X.1 X.2.1 dX10_passes_31 rfl (lv_at hl 0 rfl) ?_
            refine lv_iload_n X.1 X.2.1 dX10_passes_32 rfl (lv_at hl 3 rfl) ?_
            refine cl_i I (runV (As := [.int (iI y)]) (rest := []) X (k_X10_passing l G (Z, S.2)  y (S.1 3 y) (S.1 2) (S.1 53 0) (S.1 12) (hfr 3 y (by omega) (by omega) (by omega)) (fun i_ => (hfr 2 i_ (by omega) (by omega) (by omega))) (hfr 53 0 (by omega) (by omega) (by omega)) (fun i_ => (hfr 12 i_ (by omega) (by omega) (by omega))) (by omega) hn1 hn5 hwd.1 hwd.2) (gdC tb_963 (gdC tb_965 (gdC tb_28 (gdC tb_48 (gdC tb_966 gdB))))) ⟨ok_X10_passing, ⟨Nat.le_of_ble_eq_true rfl, Nat.le_of_ble_eq_true rfl⟩, rfl, rfl⟩ (PreV.of (C := RX10) (T := TX10) (N := 41) I (atM_model) rfl) rfl hl.1 rfl (Nat.le_of_ble_eq_true rfl) dX10_passes_33 ⟨Nat.zero_le _, Nat.zero_le _⟩) (fun r22 S23 H locs q24 I => ?_)
            obtain ⟨e1_, e2_⟩ := q24
            rw [e2_] at I
            rw [e1_]
            clear e1_ e2_
            rcases Decidable.em (psL (fun z_ => (S.1 2) (12 * y + z_)) ((S.1 3 y)).toNat (S.1 12) ((S.1 53 0)).toNat = true) with b25 | b25
            · rw [bI_t b25]
              refine lv_goto (tgt := 52) X.1 X.2.1 dX10_passes_36 (by decide) ?_
              refine lv_istore (lv' := [(4, .int (iI 1)), (0, .ref (G.2.2 0)), (1, .int (iI x)), (2, .int (iI (psb (fun v_ => (x = 0 ∧ psL (fun z_ => S.1 2 (12 * v_ + z_)) (S.1 3 v_).toNat (S.1 12) (S.1 53 0).toNat = true) ∨ (x = 1 ∧ 0 < (resS (fun z_ => (S.1 2) (12 * v_ + z_)) (S.1 12) (S.1 4 v_) (S.1 7 0) (S.1 7 1) (S.1 7 2) (S.1 3 v_) (S.1 53 0)).1)) y.toNat))), (3, .int (iI y))]) X.1 X.2.1 dX10_passes_52 hl (by decide) rfl (fun ls hl => ?_)
              refine lv_iload X.1 X.2.1 dX10_passes_54 (lv_at hl 0 rfl) ?_
              refine rz_eq (tgt := 65) X (by omega) dX10_passes_56 (by decide) (fun c26 => absurd c26 (by decide)) (fun _ => ?_)
              refine lv_iload_n X.1 X.2.1 dX10_passes_59 rfl (lv_at hl 3 rfl) ?_
              refine ri_const X (v := 1) dX10_passes_60 ?_
              refine lv_iload_n X.1 X.2.1 dX10_passes_61 rfl (lv_at hl 4 rfl) ?_
              refine ri_shl X (by omega) dX10_passes_62 ?_
              have t27 := pw_r (k := y) (by omega)
              refine ri_add X (v := ((psb (fun v_ => (x = 0 ∧ psL (fun z_ => S.1 2 (12 * v_ + z_)) (S.1 3 v_).toNat (S.1 12) (S.1 53 0).toNat = true) ∨ (x = 1 ∧ 0 < (resS (fun z_ => (S.1 2) (12 * v_ + z_)) (S.1 12) (S.1 4 v_) (S.1 7 0) (S.1 7 1) (S.1 7 2) (S.1 3 v_) (S.1 53 0)).1)) y.toNat) + (pw y))) rfl dX10_passes_63 ?_
              refine lv_istore_n (lv' := [(2, .int (iI ((psb (fun v_ => (x = 0 ∧ psL (fun z_ => S.1 2 (12 * v_ + z_)) (S.1 3 v_).toNat (S.1 12) (S.1 53 0).toNat = true) ∨ (x = 1 ∧ 0 < (resS (fun z_ => (S.1 2) (12 * v_ + z_)) (S.1 12) (S.1 4 v_) (S.1 7 0) (S.1 7 1) (S.1 7 2) (S.1 3 v_) (S.1 53 0)).1)) y.toNat) + (pw y)))), (4, .int (iI 1)), (0, .ref (G.2.2 0)), (1, .int (iI x)), (3, .int (iI y))]) X.1 X.2.1 dX10_passes_64 rfl hl (by decide) rfl (fun ls hl => ?_)
              refine ri_iinc X (k := 4) (v := (y + 1)) (lv' := [(3, .int (iI (y + 1))), (2, .int (iI ((psb (fun v_ => (x = 0 ∧ psL (fun z_ => S.1 2 (12 * v_ + z_)) (S.1 3 v_).toNat (S.1 12) (S.1 53 0).toNat = true) ∨ (x = 1 ∧ 0 < (resS (fun z_ => (S.1 2) (12 * v_ + z_)) (S.1 12) (S.1 4 v_) (S.1 7 0) (S.1 7 1) (S.1 7 2) (S.1 3 v_) (S.1 53 0)).1)) y.toNat) + (pw y)))), (4, .int (iI 1)), (0, .ref (G.2.2 0)), (1, .int (iI x))]) rfl dX10_passes_65 hl rfl (by decide) rfl (fun ls hl => ?_)
              refine lv_goto (tgt := 19) X.1 X.2.1 dX10_passes_68 (by decide) ?_
              have hl : lv_has ls 5 [(3, .int (iI (y + 1))), (2, .int (iI (psb (fun v_ => (x = 0 ∧ psL (fun z_ => S.1 2 (12 * v_ + z_)) (S.1 3 v_).toNat (S.1 12) (S.1 53 0).toNat = true) ∨ (x = 1 ∧ 0 < (resS (fun z_ => (S.1 2) (12 * v_ + z_)) (S.1 12) (S.1 4 v_) (S.1 7 0) (S.1 7 1) (S.1 7 2) (S.1 3 v_) (S.1 53 0)).1)) (y + 1).toNat))), (4, .int (iI 1)), (0, .ref (G.2.2 0)), (1, .int (iI x))] := by
                have e_ : ((psb (fun v_ => (x = 0 ∧ psL (fun z_ => S.1 2 (12 * v_ + z_)) (S.1 3 v_).toNat (S.1 12) (S.1 53 0).toNat = true) ∨ (x = 1 ∧ 0 < (resS (fun z_ => (S.1 2) (12 * v_ + z_)) (S.1 12) (S.1 4 v_) (S.1 7 0) (S.1 7 1) (S.1 7 2) (S.1 3 v_) (S.1 53 0)).1)) y.toNat) + (pw y)) = (psb (fun v_ => (x = 0 ∧ psL (fun z_ => S.1 2 (12 * v_ + z_)) (S.1 3 v_).toNat (S.1 12) (S.1 53 0).toNat = true) ∨ (x = 1 ∧ 0 < (resS (fun z_ => (S.1 2) (12 * v_ + z_)) (S.1 12) (S.1 4 v_) (S.1 7 0) (S.1 7 1) (S.1 7 2) (S.1 3 v_) (S.1 53 0)).1)) (y + 1).toNat) := by first | exact psb_a (by omega) (Or.inl ⟨by omega, by assumption⟩) | exact psb_a (by omega) (Or.inr ⟨by omega, by omega⟩) | exact psb_n (by omega) (fun z => by rcases z with z | z; exact absurd z.2 (by assumption); omega) | exact psb_n (by omega) (fun z => by rcases z with z | z <;> omega)
                rw [← e_]; exact hl
              exact ih_19 (y + 1) Z (by omega) (by omega) (hfr) (hW62) (hTw) _ _ I ls (lv_sub hl [3, 4, 1, 0] rfl)
            · rw [bI_f b25]
              refine lv_goto (tgt := 52) X.1 X.2.1 dX10_passes_36 (by decide) ?_
              refine lv_istore (lv' := [(4, .int (iI 0)), (0, .ref (G.2.2 0)), (1, .int (iI x)), (2, .int (iI (psb (fun v_ => (x = 0 ∧ psL (fun z_ => S.1 2 (12 * v_ + z_)) (S.1 3 v_).toNat (S.1 12) (S.1 53 0).toNat = true) ∨ (x = 1 ∧ 0 < (resS (fun z_ => (S.1 2) (12 * v_ + z_)) (S.1 12) (S.1 4 v_) (S.1 7 0) (S.1 7 1) (S.1 7 2) (S.1 3 v_) (S.1 53 0)).1)) y.toNat))), (3, .int (iI y))]) X.1 X.2.1 dX10_passes_52 hl (by decide) rfl (fun ls hl => ?_)
              refine lv_iload X.1 X.2.1 dX10_passes_54 (lv_at hl 0 rfl) ?_
              refine rz_eq (tgt := 65) X (by omega) dX10_passes_56 (by decide) (fun _ => ?_) (fun c28 => absurd c28 (fun q => q (by decide)))
              refine ri_iinc X (k := 4) (v := (y + 1)) (lv' := [(3, .int (iI (y + 1))), (4, .int (iI 0)), (0, .ref (G.2.2 0)), (1, .int (iI x)), (2, .int (iI (psb (fun v_ => (x = 0 ∧ psL (fun z_ => S.1 2 (12 * v_ + z_)) (S.1 3 v_).toNat (S.1 12) (S.1 53 0).toNat = true) ∨ (x = 1 ∧ 0 < (resS (fun z_ => (S.1 2) (12 * v_ + z_)) (S.1 12) (S.1 4 v_) (S.1 7 0) (S.1 7 1) (S.1 7 2) (S.1 3 v_) (S.1 53 0)).1)) y.toNat)))]) rfl dX10_passes_65 hl rfl (by decide) rfl (fun ls hl => ?_)
              refine lv_goto (tgt := 19) X.1 X.2.1 dX10_passes_68 (by decide) ?_
              have hl : lv_has ls 5 [(3, .int (iI (y + 1))), (4, .int (iI 0)), (0, .ref (G.2.2 0)), (1, .int (iI x)), (2, .int (iI (psb (fun v_ => (x = 0 ∧ psL (fun z_ => S.1 2 (12 * v_ + z_)) (S.1 3 v_).toNat (S.1 12) (S.1 53 0).toNat = true) ∨ (x = 1 ∧ 0 < (resS (fun z_ => (S.1 2) (12 * v_ + z_)) (S.1 12) (S.1 4 v_) (S.1 7 0) (S.1 7 1) (S.1 7 2) (S.1 3 v_) (S.1 53 0)).1)) (y + 1).toNat)))] := by
                have e_ : (psb (fun v_ => (x = 0 ∧ psL (fun z_ => S.1 2 (12 * v_ + z_)) (S.1 3 v_).toNat (S.1 12) (S.1 53 0).toNat = true) ∨ (x = 1 ∧ 0 < (resS (fun z_ => (S.1 2) (12 * v_ + z_)) (S.1 12) (S.1 4 v_) (S.1 7 0) (S.1 7 1) (S.1 7 2) (S.1 3 v_) (S.1 53 0)).1)) y.toNat) = (psb (fun v_ => (x = 0 ∧ psL (fun z_ => S.1 2 (12 * v_ + z_)) (S.1 3 v_).toNat (S.1 12) (S.1 53 0).toNat = true) ∨ (x = 1 ∧ 0 < (resS (fun z_ => (S.1 2) (12 * v_ + z_)) (S.1 12) (S.1 4 v_) (S.1 7 0) (S.1 7 1) (S.1 7 2) (S.1 3 v_) (S.1 53 0)).1)) (y + 1).toNat) := by first | exact psb_a (by omega) (Or.inl ⟨by omega, by assumption⟩) | exact psb_a (by omega) (Or.inr ⟨by omega, by omega⟩) | exact psb_n (by omega) (fun z => by rcases z with z | z; exact absurd z.2 (by assumption); omega) | exact psb_n (by omega) (fun z => by rcases z with z | z <;> omega)
                rw [← e_]; exact hl
              exact ih_19 (y + 1) Z (by omega) (by omega) (hfr) (hW62) (hTw) _ _ I ls (lv_sub hl [2, 3, 4, 0] rfl)
    have hl : lv_has ls 5 [(3, .int (iI 0)), (2, .int (iI (psb (fun v_ => (x = 0 ∧ psL (fun z_ => S.1 2 (12 * v_ + z_)) (S.1 3 v_).toNat (S.1 12) (S.1 53 0).toNat = true) ∨ (x = 1 ∧ 0 < (resS (fun z_ => (S.1 2) (12 * v_ + z_)) (S.1 12) (S.1 4 v_) (S.1 7 0) (S.1 7 1) (S.1 7 2) (S.1 3 v_) (S.1 53 0)).1)) (0 : Int).toNat))), (0, .ref (G.2.2 0)), (1, .int (iI x))] := by
      have e_ : 0 = (psb (fun v_ => (x = 0 ∧ psL (fun z_ => S.1 2 (12 * v_ + z_)) (S.1 3 v_).toNat (S.1 12) (S.1 53 0).toNat = true) ∨ (x = 1 ∧ 0 < (resS (fun z_ => (S.1 2) (12 * v_ + z_)) (S.1 12) (S.1 4 v_) (S.1 7 0) (S.1 7 1) (S.1 7 2) (S.1 3 v_) (S.1 53 0)).1)) (0 : Int).toNat) := rfl
      rw [← e_]; exact hl
    exact lp_19 (9) 0 T1 (by omega) (by omega) (fun c_ i h1 h2 h3 => hTf c_ i (by omega) h2) (hT62) (hTw) _ _ I ls (lv_sub hl [2, 3, 1, 0] rfl)
  · skip
    refine lv_iload_n X.1 X.2.1 dX10_passes_4 rfl (lv_at hl 1 rfl) ?_
    refine ri_const X (v := 1) dX10_passes_5 ?_
    refine rj_eq (tgt := 11) X (by omega) (by omega) dX10_passes_6 (by decide) (fun c29 => ?_) (fun c29 => ?_)
    · skip
      have hw0 := hw 0 (by omega) (by omega)
      have hw1 := hw 1 (by omega) (by omega)
      have hw2 := hw 2 (by omega) (by omega)
      refine lv_aload_n X.1 X.2.1 dX10_passes_11 rfl (lv_at hl 0 rfl) ?_
      refine cl_v I (runV (As := []) (rest := []) X (k_X10_triesWord l G S  (S.1 53 0) (S.1 12) rfl (fun i_ => rfl) hwd.1 hwd.2) (gdC tb_932 (gdC tb_934 (gdC tb_22 (gdC tb_48 (gdC tb_935 gdB))))) ⟨ok_X10_triesWord, ⟨Nat.le_of_ble_eq_true rfl, Nat.le_of_ble_eq_true rfl⟩, rfl, rfl⟩ (PreV.of (C := RX10) (T := TX10) (N := 41) I (atM_model) rfl) rfl hl.1 rfl (Nat.le_of_ble_eq_true rfl) dX10_passes_12 ⟨Nat.zero_le _, Nat.zero_le _⟩) (fun S31 H locs q32 I => ?_)
      obtain ⟨hT2, hT62, hTw, hTf⟩ := q32
      obtain ⟨T1, T2⟩ := S31
      dsimp only at hT2 hT62 hTw hTf
      subst hT2
      refine ri_const X (v := 0) dX10_passes_15 ?_
      refine lv_istore_n (lv' := [(2, .int (iI 0)), (0, .ref (G.2.2 0)), (1, .int (iI x))]) X.1 X.2.1 dX10_passes_16 rfl hl (by decide) rfl (fun ls hl => ?_)
      refine ri_const X (v := 0) dX10_passes_17 ?_
      refine lv_istore_n (lv' := [(3, .int (iI 0)), (2, .int (iI 0)), (0, .ref (G.2.2 0)), (1, .int (iI x))]) X.1 X.2.1 dX10_passes_18 rfl hl (by decide) rfl (fun ls hl => ?_)
      have lp_19 : ∀ (fu_ : Nat) (y : Int) (Z : Nat → Int → Int), (8 - y).toNat < fu_ → ∀ (hy : 0 ≤ y ∧ y ≤ S.1 51 0) (hfr : ∀ (c_ : Nat) (i : Int), ¬ (20 ≤ c_ ∧ c_ ≤ 22) → ¬ c_ = 62 → ¬ c_ = 63 → Z c_ i = S.1 c_ i) (hW62 : Z 62 0 = S.1 53 0) (hTw : ∀ i : Int, 0 ≤ i → i < S.1 53 0 → Z 20 i = S.1 12 i) (H : Heap) (locs : List Loc), In (KM G) s s.heap H locs (Z, S.2) → ∀ ls : Array Slot, lv_has ls 5 [(0, .ref (G.2.2 0)), (1, .int (iI x)), (2, .int (iI (psb (fun v_ => (x = 0 ∧ psL (fun z_ => S.1 2 (12 * v_ + z_)) (S.1 3 v_).toNat (S.1 12) (S.1 53 0).toNat = true) ∨ (x = 1 ∧ 0 < (resS (fun z_ => (S.1 2) (12 * v_ + z_)) (S.1 12) (S.1 4 v_) (S.1 7 0) (S.1 7 1) (S.1 7 2) (S.1 3 v_) (S.1 53 0)).1)) y.toNat))), (3, .int (iI y))] → W p l e rm_X10_passes s m args below meth c H locs 0 0 (MQ below (QI (KM G) (po_X10_passes S x)) args s 0 0 (KM G).2.2.2) (F0 m 19 ls []) := by
        intro fu_
        induction fu_ with
        | zero => intro y Z hm; exact absurd hm (by omega)
        | succ fu_ ih_19 =>
          intro y Z hm_19 hy hfr hW62 hTw H locs I ls hl
          refine lv_iload_n X.1 X.2.1 dX10_passes_19 rfl (lv_at hl 3 rfl) ?_
          refine lv_aload_n X.1 X.2.1 dX10_passes_20 rfl (lv_at hl 0 rfl) ?_
          refine gM_model_names X I (v := (S.1 51 0)) (hfr 51 0 (by omega) (by omega) (by omega)) tb_696 dX10_passes_21 ?_
          refine rj_ge (tgt := 71) X (by omega) (by omega) dX10_passes_24 (by decide) (fun c33 => ?_) (fun c33 => ?_)
          · skip
            have e_y : S.1 51 0 = y := by omega
            refine lv_iload_n X.1 X.2.1 dX10_passes_71 rfl (lv_at hl 2 rfl) ?_
            exact rt_i X hr hlk I rfl (by exact ⟨rfl, hfr, Or.inr ⟨by omega, by rw [e_y]⟩⟩) dX10_passes_72
          · skip
            have hny := hnm y (by omega) (by omega)
            obtain ⟨hn1, hn2, hn3, hn4, hn5⟩ := hny
            have hkd := hn2
            have hn_ := hn1
            have hs := hn5
            have hb := hw0
            have hr_ := hw1
            have hg := hw2
            have hbr := psb_r (fun v_ => (x = 0 ∧ psL (fun z_ => S.1 2 (12 * v_ + z_)) (S.1 3 v_).toNat (S.1 12) (S.1 53 0).toNat = true) ∨ (x = 1 ∧ 0 < (resS (fun z_ => (S.1 2) (12 * v_ + z_)) (S.1 12) (S.1 4 v_) (S.1 7 0) (S.1 7 1) (S.1 7 2) (S.1 3 v_) (S.1 53 0)).1)) y.toNat (by omega)
            refine lv_iload_n X.1 X.2.1 dX10_passes_27 rfl (lv_at hl 1 rfl) ?_
            refine rz_ne (tgt := 39) X (by omega) dX10_passes_28 (by decide) (fun c34 => ?_) (fun c34 => ?_)
            · skip
              refine lv_aload_n X.1 X.2.1 dX10_passes_39 rfl (lv_at hl 0 rfl) ?_
              refine lv_iload_n X.1 X.2.1 dX10_passes_40 rfl (lv_at hl 3 rfl) ?_
              refine cl_i I (runV (As := [.int (iI y)]) (rest := []) X (k_X10_waysOf l G (Z, S.2)  y (S.1 2) (S.1 4 y) (S.1 3 y) (S.1 53 0) (Z 20) (S.1 7 0) (S.1 7 1) (S.1 7 2) (fun i_ => (hfr 2 i_ (by omega) (by omega) (by omega))) (hfr 4 y (by omega) (by omega) (by omega)) (hfr 3 y (by omega) (by omega) (by omega)) hW62 (fun i_ => rfl) (hfr 7 0 (by omega) (by omega) (by omega)) (hfr 7 1 (by omega) (by omega) (by omega)) (hfr 7 2 (by omega) (by omega) (by omega)) (by omega) hkd hn_ hs hwd.1 (fun j a b => by first | (rw [hTw j a b]; exact hwd.2 j a b) | exact hwd.2 j a b) hb hr_ hg) (gdC tb_936 (gdC tb_938 (gdC tb_23 (gdC tb_48 (gdC tb_939 gdB))))) ⟨ok_X10_waysOf, ⟨Nat.le_of_ble_eq_true rfl, Nat.le_of_ble_eq_true rfl⟩, rfl, rfl⟩ (PreV.of (C := RX10) (T := TX10) (N := 41) I (atM_model) rfl) rfl hl.1 rfl (Nat.le_of_ble_eq_true rfl) dX10_passes_41 ⟨Nat.zero_le _, Nat.zero_le _⟩) (fun r35 S36 H locs q37 I => ?_)
              unfold po_X10_waysOf at q37
              rw [resS_congr hTw] at q37
              obtain ⟨hW39, hW40, hW41, hW42, hW43, hW44, hW45⟩ := q37
              obtain ⟨V38, V2⟩ := S36
              dsimp only at hW40 hW41 hW42 hW44 hW45
              subst hW40
              subst hW39
              refine rz_le (tgt := 51) X (by omega) dX10_passes_44 (by decide) (fun c46 => ?_) (fun c46 => ?_)
              · skip
                refine ri_const X (v := 0) dX10_passes_51 ?_
                refine lv_istore (lv' := [(4, .int (iI 0)), (0, .ref (G.2.2 0)), (1, .int (iI x)), (2, .int (iI (psb (fun v_ => (x = 0 ∧ psL (fun z_ => S.1 2 (12 * v_ + z_)) (S.1 3 v_).toNat (S.1 12) (S.1 53 0).toNat = true) ∨ (x = 1 ∧ 0 < (resS (fun z_ => (S.1 2) (12 * v_ + z_)) (S.1 12) (S.1 4 v_) (S.1 7 0) (S.1 7 1) (S.1 7 2) (S.1 3 v_) (S.1 53 0)).1)) y.toNat))), (3, .int (iI y))]) X.1 X.2.1 dX10_passes_52 hl (by decide) rfl (fun ls hl => ?_)
                refine lv_iload X.1 X.2.1 dX10_passes_54 (lv_at hl 0 rfl) ?_
                refine rz_eq (tgt := 65) X (by omega) dX10_passes_56 (by decide) (fun _ => ?_) (fun c47 => absurd c47 (fun q => q (by decide)))
                have hfr2 : ∀ (c_ : Nat) (i : Int), ¬ (20 ≤ c_ ∧ c_ ≤ 22) → ¬ c_ = 62 → ¬ c_ = 63 → V38 c_ i = S.1 c_ i := fun c_ i h1 h2 h3 => (hW45 c_ i (by omega) (by omega) h3).trans (hfr c_ i h1 h2 h3)
                have hV62 : V38 62 0 = S.1 53 0 := (hW45 62 0 (by omega) (by omega) (by omega)).trans hW62
                have hVw : ∀ i : Int, 0 ≤ i → i < S.1 53 0 → V38 20 i = S.1 12 i := fun i h1 h2 => (hW45 20 i (by omega) (by omega) (by omega)).trans (hTw i h1 h2)
                refine ri_iinc X (k := 4) (v := (y + 1)) (lv' := [(3, .int (iI (y + 1))), (4, .int (iI 0)), (0, .ref (G.2.2 0)), (1, .int (iI x)), (2, .int (iI (psb (fun v_ => (x = 0 ∧ psL (fun z_ => S.1 2 (12 * v_ + z_)) (S.1 3 v_).toNat (S.1 12) (S.1 53 0).toNat = true) ∨ (x = 1 ∧ 0 < (resS (fun z_ => (S.1 2) (12 * v_ + z_)) (S.1 12) (S.1 4 v_) (S.1 7 0) (S.1 7 1) (S.1 7 2) (S.1 3 v_) (S.1 53 0)).1)) y.toNat)))]) rfl dX10_passes_65 hl rfl (by decide) rfl (fun ls hl => ?_)
                refine lv_goto (tgt := 19) X.1 X.2.1 dX10_passes_68 (by decide) ?_
                have hl : lv_has ls 5 [(3, .int (iI (y + 1))), (4, .int (iI 0)), (0, .ref (G.2.2 0)), (1, .int (iI x)), (2, .int (iI (psb (fun v_ => (x = 0 ∧ psL (fun z_ => S.1 2 (12 * v_ + z_)) (S.1 3 v_).toNat (S.1 12) (S.1 53 0).toNat = true) ∨ (x = 1 ∧ 0 < (resS (fun z_ => (S.1 2) (12 * v_ + z_)) (S.1 12) (S.1 4 v_) (S.1 7 0) (S.1 7 1) (S.1 7 2) (S.1 3 v_) (S.1 53 0)).1)) (y + 1).toNat)))] := by
                  have e_ : (psb (fun v_ => (x = 0 ∧ psL (fun z_ => S.1 2 (12 * v_ + z_)) (S.1 3 v_).toNat (S.1 12) (S.1 53 0).toNat = true) ∨ (x = 1 ∧ 0 < (resS (fun z_ => (S.1 2) (12 * v_ + z_)) (S.1 12) (S.1 4 v_) (S.1 7 0) (S.1 7 1) (S.1 7 2) (S.1 3 v_) (S.1 53 0)).1)) y.toNat) = (psb (fun v_ => (x = 0 ∧ psL (fun z_ => S.1 2 (12 * v_ + z_)) (S.1 3 v_).toNat (S.1 12) (S.1 53 0).toNat = true) ∨ (x = 1 ∧ 0 < (resS (fun z_ => (S.1 2) (12 * v_ + z_)) (S.1 12) (S.1 4 v_) (S.1 7 0) (S.1 7 1) (S.1 7 2) (S.1 3 v_) (S.1 53 0)).1)) (y + 1).toNat) := by first | exact psb_a (by omega) (Or.inl ⟨by omega, by assumption⟩) | exact psb_a (by omega) (Or.inr ⟨by omega, by omega⟩) | exact psb_n (by omega) (fun z => by rcases z with z | z; exact absurd z.2 (by assumption); omega) | exact psb_n (by omega) (fun z => by rcases z with z | z <;> omega)
                  rw [← e_]; exact hl
                exact ih_19 (y + 1) V38 (by omega) (by omega) (hfr2) (hV62) (hVw) _ _ I ls (lv_sub hl [2, 3, 4, 0] rfl)
              · skip
                refine ri_const X (v := 1) dX10_passes_47 ?_
                refine lv_goto (tgt := 52) X.1 X.2.1 dX10_passes_48 (by decide) ?_
                refine lv_istore (lv' := [(4, .int (iI 1)), (0, .ref (G.2.2 0)), (1, .int (iI x)), (2, .int (iI (psb (fun v_ => (x = 0 ∧ psL (fun z_ => S.1 2 (12 * v_ + z_)) (S.1 3 v_).toNat (S.1 12) (S.1 53 0).toNat = true) ∨ (x = 1 ∧ 0 < (resS (fun z_ => (S.1 2) (12 * v_ + z_)) (S.1 12) (S.1 4 v_) (S.1 7 0) (S.1 7 1) (S.1 7 2) (S.1 3 v_) (S.1 53 0)).1)) y.toNat))), (3, .int (iI y))]) X.1 X.2.1 dX10_passes_52 hl (by decide) rfl (fun ls hl => ?_)
                refine lv_iload X.1 X.2.1 dX10_passes_54 (lv_at hl 0 rfl) ?_
                refine rz_eq (tgt := 65) X (by omega) dX10_passes_56 (by decide) (fun c48 => absurd c48 (by decide)) (fun _ => ?_)
                refine lv_iload_n X.1 X.2.1 dX10_passes_59 rfl (lv_at hl 3 rfl) ?_
                refine ri_const X (v := 1) dX10_passes_60 ?_
                refine lv_iload_n X.1 X.2.1 dX10_passes_61 rfl (lv_at hl 4 rfl) ?_
                refine ri_shl X (by omega) dX10_passes_62 ?_
                have t49 := pw_r (k := y) (by omega)
                refine ri_add X (v := ((psb (fun v_ => (x = 0 ∧ psL (fun z_ => S.1 2 (12 * v_ + z_)) (S.1 3 v_).toNat (S.1 12) (S.1 53 0).toNat = true) ∨ (x = 1 ∧ 0 < (resS (fun z_ => (S.1 2) (12 * v_ + z_)) (S.1 12) (S.1 4 v_) (S.1 7 0) (S.1 7 1) (S.1 7 2) (S.1 3 v_) (S.1 53 0)).1)) y.toNat) + (pw y))) rfl dX10_passes_63 ?_
                refine lv_istore_n (lv' := [(2, .int (iI ((psb (fun v_ => (x = 0 ∧ psL (fun z_ => S.1 2 (12 * v_ + z_)) (S.1 3 v_).toNat (S.1 12) (S.1 53 0).toNat = true) ∨ (x = 1 ∧ 0 < (resS (fun z_ => (S.1 2) (12 * v_ + z_)) (S.1 12) (S.1 4 v_) (S.1 7 0) (S.1 7 1) (S.1 7 2) (S.1 3 v_) (S.1 53 0)).1)) y.toNat) + (pw y)))), (4, .int (iI 1)), (0, .ref (G.2.2 0)), (1, .int (iI x)), (3, .int (iI y))]) X.1 X.2.1 dX10_passes_64 rfl hl (by decide) rfl (fun ls hl => ?_)
                have hfr2 : ∀ (c_ : Nat) (i : Int), ¬ (20 ≤ c_ ∧ c_ ≤ 22) → ¬ c_ = 62 → ¬ c_ = 63 → V38 c_ i = S.1 c_ i := fun c_ i h1 h2 h3 => (hW45 c_ i (by omega) (by omega) h3).trans (hfr c_ i h1 h2 h3)
                have hV62 : V38 62 0 = S.1 53 0 := (hW45 62 0 (by omega) (by omega) (by omega)).trans hW62
                have hVw : ∀ i : Int, 0 ≤ i → i < S.1 53 0 → V38 20 i = S.1 12 i := fun i h1 h2 => (hW45 20 i (by omega) (by omega) (by omega)).trans (hTw i h1 h2)
                refine ri_iinc X (k := 4) (v := (y + 1)) (lv' := [(3, .int (iI (y + 1))), (2, .int (iI ((psb (fun v_ => (x = 0 ∧ psL (fun z_ => S.1 2 (12 * v_ + z_)) (S.1 3 v_).toNat (S.1 12) (S.1 53 0).toNat = true) ∨ (x = 1 ∧ 0 < (resS (fun z_ => (S.1 2) (12 * v_ + z_)) (S.1 12) (S.1 4 v_) (S.1 7 0) (S.1 7 1) (S.1 7 2) (S.1 3 v_) (S.1 53 0)).1)) y.toNat) + (pw y)))), (4, .int (iI 1)), (0, .ref (G.2.2 0)), (1, .int (iI x))]) rfl dX10_passes_65 hl rfl (by decide) rfl (fun ls hl => ?_)
                refine lv_goto (tgt := 19) X.1 X.2.1 dX10_passes_68 (by decide) ?_
                have hl : lv_has ls 5 [(3, .int (iI (y + 1))), (2, .int (iI (psb (fun v_ => (x = 0 ∧ psL (fun z_ => S.1 2 (12 * v_ + z_)) (S.1 3 v_).toNat (S.1 12) (S.1 53 0).toNat = true) ∨ (x = 1 ∧ 0 < (resS (fun z_ => (S.1 2) (12 * v_ + z_)) (S.1 12) (S.1 4 v_) (S.1 7 0) (S.1 7 1) (S.1 7 2) (S.1 3 v_) (S.1 53 0)).1)) (y + 1).toNat))), (4, .int (iI 1)), (0, .ref (G.2.2 0)), (1, .int (iI x))] := by
                  have e_ : ((psb (fun v_ => (x = 0 ∧ psL (fun z_ => S.1 2 (12 * v_ + z_)) (S.1 3 v_).toNat (S.1 12) (S.1 53 0).toNat = true) ∨ (x = 1 ∧ 0 < (resS (fun z_ => (S.1 2) (12 * v_ + z_)) (S.1 12) (S.1 4 v_) (S.1 7 0) (S.1 7 1) (S.1 7 2) (S.1 3 v_) (S.1 53 0)).1)) y.toNat) + (pw y)) = (psb (fun v_ => (x = 0 ∧ psL (fun z_ => S.1 2 (12 * v_ + z_)) (S.1 3 v_).toNat (S.1 12) (S.1 53 0).toNat = true) ∨ (x = 1 ∧ 0 < (resS (fun z_ => (S.1 2) (12 * v_ + z_)) (S.1 12) (S.1 4 v_) (S.1 7 0) (S.1 7 1) (S.1 7 2) (S.1 3 v_) (S.1 53 0)).1)) (y + 1).toNat) := by first | exact psb_a (by omega) (Or.inl ⟨by omega, by assumption⟩) | exact psb_a (by omega) (Or.inr ⟨by omega, by omega⟩) | exact psb_n (by omega) (fun z => by rcases z with z | z; exact absurd z.2 (by assumption); omega) | exact psb_n (by omega) (fun z => by rcases z with z | z <;> omega)
                  rw [← e_]; exact hl
                exact ih_19 (y + 1) V38 (by omega) (by omega) (hfr2) (hV62) (hVw) _ _ I ls (lv_sub hl [3, 4, 1, 0] rfl)
            · skip
              refine lv_aload_n X.1 X.2.1 dX10_passes_31 rfl (lv_at hl 0 rfl) ?_
              refine lv_iload_n X.1 X.2.1 dX10_passes_32 rfl (lv_at hl 3 rfl) ?_
              refine cl_i I (runV (As := [.int (iI y)]) (rest := []) X (k_X10_passing l G (Z, S.2)  y (S.1 3 y) (S.1 2) (S.1 53 0) (S.1 12) (hfr 3 y (by omega) (by omega) (by omega)) (fun i_ => (hfr 2 i_ (by omega) (by omega) (by omega))) (hfr 53 0 (by omega) (by omega) (by omega)) (fun i_ => (hfr 12 i_ (by omega) (by omega) (by omega))) (by omega) hn1 hn5 hwd.1 hwd.2) (gdC tb_963 (gdC tb_965 (gdC tb_28 (gdC tb_48 (gdC tb_966 gdB))))) ⟨ok_X10_passing, ⟨Nat.le_of_ble_eq_true rfl, Nat.le_of_ble_eq_true rfl⟩, rfl, rfl⟩ (PreV.of (C := RX10) (T := TX10) (N := 41) I (atM_model) rfl) rfl hl.1 rfl (Nat.le_of_ble_eq_true rfl) dX10_passes_33 ⟨Nat.zero_le _, Nat.zero_le _⟩) (fun r50 S51 H locs q52 I => ?_)
              obtain ⟨e1_, e2_⟩ := q52
              rw [e2_] at I
              rw [e1_]
              clear e1_ e2_
              rcases Decidable.em (psL (fun z_ => (S.1 2) (12 * y + z_)) ((S.1 3 y)).toNat (S.1 12) ((S.1 53 0)).toNat = true) with b53 | b53
              · rw [bI_t b53]
                refine lv_goto (tgt := 52) X.1 X.2.1 dX10_passes_36 (by decide) ?_
                refine lv_istore (lv' := [(4, .int (iI 1)), (0, .ref (G.2.2 0)), (1, .int (iI x)), (2, .int (iI (psb (fun v_ => (x = 0 ∧ psL (fun z_ => S.1 2 (12 * v_ + z_)) (S.1 3 v_).toNat (S.1 12) (S.1 53 0).toNat = true) ∨ (x = 1 ∧ 0 < (resS (fun z_ => (S.1 2) (12 * v_ + z_)) (S.1 12) (S.1 4 v_) (S.1 7 0) (S.1 7 1) (S.1 7 2) (S.1 3 v_) (S.1 53 0)).1)) y.toNat))), (3, .int (iI y))]) X.1 X.2.1 dX10_passes_52 hl (by decide) rfl (fun ls hl => ?_)
                refine lv_iload X.1 X.2.1 dX10_passes_54 (lv_at hl 0 rfl) ?_
                refine rz_eq (tgt := 65) X (by omega) dX10_passes_56 (by decide) (fun c54 => absurd c54 (by decide)) (fun _ => ?_)
                refine lv_iload_n X.1 X.2.1 dX10_passes_59 rfl (lv_at hl 3 rfl) ?_
                refine ri_const X (v := 1) dX10_passes_60 ?_
                refine lv_iload_n X.1 X.2.1 dX10_passes_61 rfl (lv_at hl 4 rfl) ?_
                refine ri_shl X (by omega) dX10_passes_62 ?_
                have t55 := pw_r (k := y) (by omega)
                refine ri_add X (v := ((psb (fun v_ => (x = 0 ∧ psL (fun z_ => S.1 2 (12 * v_ + z_)) (S.1 3 v_).toNat (S.1 12) (S.1 53 0).toNat = true) ∨ (x = 1 ∧ 0 < (resS (fun z_ => (S.1 2) (12 * v_ + z_)) (S.1 12) (S.1 4 v_) (S.1 7 0) (S.1 7 1) (S.1 7 2) (S.1 3 v_) (S.1 53 0)).1)) y.toNat) + (pw y))) rfl dX10_passes_63 ?_
                refine lv_istore_n (lv' := [(2, .int (iI ((psb (fun v_ => (x = 0 ∧ psL (fun z_ => S.1 2 (12 * v_ + z_)) (S.1 3 v_).toNat (S.1 12) (S.1 53 0).toNat = true) ∨ (x = 1 ∧ 0 < (resS (fun z_ => (S.1 2) (12 * v_ + z_)) (S.1 12) (S.1 4 v_) (S.1 7 0) (S.1 7 1) (S.1 7 2) (S.1 3 v_) (S.1 53 0)).1)) y.toNat) + (pw y)))), (4, .int (iI 1)), (0, .ref (G.2.2 0)), (1, .int (iI x)), (3, .int (iI y))]) X.1 X.2.1 dX10_passes_64 rfl hl (by decide) rfl (fun ls hl => ?_)
                refine ri_iinc X (k := 4) (v := (y + 1)) (lv' := [(3, .int (iI (y + 1))), (2, .int (iI ((psb (fun v_ => (x = 0 ∧ psL (fun z_ => S.1 2 (12 * v_ + z_)) (S.1 3 v_).toNat (S.1 12) (S.1 53 0).toNat = true) ∨ (x = 1 ∧ 0 < (resS (fun z_ => (S.1 2) (12 * v_ + z_)) (S.1 12) (S.1 4 v_) (S.1 7 0) (S.1 7 1) (S.1 7 2) (S.1 3 v_) (S.1 53 0)).1)) y.toNat) + (pw y)))), (4, .int (iI 1)), (0, .ref (G.2.2 0)), (1, .int (iI x))]) rfl dX10_passes_65 hl rfl (by decide) rfl (fun ls hl => ?_)
                refine lv_goto (tgt := 19) X.1 X.2.1 dX10_passes_68 (by decide) ?_
                have hl : lv_has ls 5 [(3, .int (iI (y + 1))), (2, .int (iI (psb (fun v_ => (x = 0 ∧ psL (fun z_ => S.1 2 (12 * v_ + z_)) (S.1 3 v_).toNat (S.1 12) (S.1 53 0).toNat = true) ∨ (x = 1 ∧ 0 < (resS (fun z_ => (S.1 2) (12 * v_ + z_)) (S.1 12) (S.1 4 v_) (S.1 7 0) (S.1 7 1) (S.1 7 2) (S.1 3 v_) (S.1 53 0)).1)) (y + 1).toNat))), (4, .int (iI 1)), (0, .ref (G.2.2 0)), (1, .int (iI x))] := by
                  have e_ : ((psb (fun v_ => (x = 0 ∧ psL (fun z_ => S.1 2 (12 * v_ + z_)) (S.1 3 v_).toNat (S.1 12) (S.1 53 0).toNat = true) ∨ (x = 1 ∧ 0 < (resS (fun z_ => (S.1 2) (12 * v_ + z_)) (S.1 12) (S.1 4 v_) (S.1 7 0) (S.1 7 1) (S.1 7 2) (S.1 3 v_) (S.1 53 0)).1)) y.toNat) + (pw y)) = (psb (fun v_ => (x = 0 ∧ psL (fun z_ => S.1 2 (12 * v_ + z_)) (S.1 3 v_).toNat (S.1 12) (S.1 53 0).toNat = true) ∨ (x = 1 ∧ 0 < (resS (fun z_ => (S.1 2) (12 * v_ + z_)) (S.1 12) (S.1 4 v_) (S.1 7 0) (S.1 7 1) (S.1 7 2) (S.1 3 v_) (S.1 53 0)).1)) (y + 1).toNat) := by first | exact psb_a (by omega) (Or.inl ⟨by omega, by assumption⟩) | exact psb_a (by omega) (Or.inr ⟨by omega, by omega⟩) | exact psb_n (by omega) (fun z => by rcases z with z | z; exact absurd z.2 (by assumption); omega) | exact psb_n (by omega) (fun z => by rcases z with z | z <;> omega)
                  rw [← e_]; exact hl
                exact ih_19 (y + 1) Z (by omega) (by omega) (hfr) (hW62) (hTw) _ _ I ls (lv_sub hl [3, 4, 1, 0] rfl)
              · rw [bI_f b53]
                refine lv_goto (tgt := 52) X.1 X.2.1 dX10_passes_36 (by decide) ?_
                refine lv_istore (lv' := [(4, .int (iI 0)), (0, .ref (G.2.2 0)), (1, .int (iI x)), (2, .int (iI (psb (fun v_ => (x = 0 ∧ psL (fun z_ => S.1 2 (12 * v_ + z_)) (S.1 3 v_).toNat (S.1 12) (S.1 53 0).toNat = true) ∨ (x = 1 ∧ 0 < (resS (fun z_ => (S.1 2) (12 * v_ + z_)) (S.1 12) (S.1 4 v_) (S.1 7 0) (S.1 7 1) (S.1 7 2) (S.1 3 v_) (S.1 53 0)).1)) y.toNat))), (3, .int (iI y))]) X.1 X.2.1 dX10_passes_52 hl (by decide) rfl (fun ls hl => ?_)
                refine lv_iload X.1 X.2.1 dX10_passes_54 (lv_at hl 0 rfl) ?_
                refine rz_eq (tgt := 65) X (by omega) dX10_passes_56 (by decide) (fun _ => ?_) (fun c56 => absurd c56 (fun q => q (by decide)))
                refine ri_iinc X (k := 4) (v := (y + 1)) (lv' := [(3, .int (iI (y + 1))), (4, .int (iI 0)), (0, .ref (G.2.2 0)), (1, .int (iI x)), (2, .int (iI (psb (fun v_ => (x = 0 ∧ psL (fun z_ => S.1 2 (12 * v_ + z_)) (S.1 3 v_).toNat (S.1 12) (S.1 53 0).toNat = true) ∨ (x = 1 ∧ 0 < (resS (fun z_ => (S.1 2) (12 * v_ + z_)) (S.1 12) (S.1 4 v_) (S.1 7 0) (S.1 7 1) (S.1 7 2) (S.1 3 v_) (S.1 53 0)).1)) y.toNat)))]) rfl dX10_passes_65 hl rfl (by decide) rfl (fun ls hl => ?_)
                refine lv_goto (tgt := 19) X.1 X.2.1 dX10_passes_68 (by decide) ?_
                have hl : lv_has ls 5 [(3, .int (iI (y + 1))), (4, .int (iI 0)), (0, .ref (G.2.2 0)), (1, .int (iI x)), (2, .int (iI (psb (fun v_ => (x = 0 ∧ psL (fun z_ => S.1 2 (12 * v_ + z_)) (S.1 3 v_).toNat (S.1 12) (S.1 53 0).toNat = true) ∨ (x = 1 ∧ 0 < (resS (fun z_ => (S.1 2) (12 * v_ + z_)) (S.1 12) (S.1 4 v_) (S.1 7 0) (S.1 7 1) (S.1 7 2) (S.1 3 v_) (S.1 53 0)).1)) (y + 1).toNat)))] := by
                  have e_ : (psb (fun v_ => (x = 0 ∧ psL (fun z_ => S.1 2 (12 * v_ + z_)) (S.1 3 v_).toNat (S.1 12) (S.1 53 0).toNat = true) ∨ (x = 1 ∧ 0 < (resS (fun z_ => (S.1 2) (12 * v_ + z_)) (S.1 12) (S.1 4 v_) (S.1 7 0) (S.1 7 1) (S.1 7 2) (S.1 3 v_) (S.1 53 0)).1)) y.toNat) = (psb (fun v_ => (x = 0 ∧ psL (fun z_ => S.1 2 (12 * v_ + z_)) (S.1 3 v_).toNat (S.1 12) (S.1 53 0).toNat = true) ∨ (x = 1 ∧ 0 < (resS (fun z_ => (S.1 2) (12 * v_ + z_)) (S.1 12) (S.1 4 v_) (S.1 7 0) (S.1 7 1) (S.1 7 2) (S.1 3 v_) (S.1 53 0)).1)) (y + 1).toNat) := by first | exact psb_a (by omega) (Or.inl ⟨by omega, by assumption⟩) | exact psb_a (by omega) (Or.inr ⟨by omega, by omega⟩) | exact psb_n (by omega) (fun z => by rcases z with z | z; exact absurd z.2 (by assumption); omega) | exact psb_n (by omega) (fun z => by rcases z with z | z <;> omega)
                  rw [← e_]; exact hl
                exact ih_19 (y + 1) Z (by omega) (by omega) (hfr) (hW62) (hTw) _ _ I ls (lv_sub hl [2, 3, 4, 0] rfl)
      have hl : lv_has ls 5 [(3, .int (iI 0)), (2, .int (iI (psb (fun v_ => (x = 0 ∧ psL (fun z_ => S.1 2 (12 * v_ + z_)) (S.1 3 v_).toNat (S.1 12) (S.1 53 0).toNat = true) ∨ (x = 1 ∧ 0 < (resS (fun z_ => (S.1 2) (12 * v_ + z_)) (S.1 12) (S.1 4 v_) (S.1 7 0) (S.1 7 1) (S.1 7 2) (S.1 3 v_) (S.1 53 0)).1)) (0 : Int).toNat))), (0, .ref (G.2.2 0)), (1, .int (iI x))] := by
        have e_ : 0 = (psb (fun v_ => (x = 0 ∧ psL (fun z_ => S.1 2 (12 * v_ + z_)) (S.1 3 v_).toNat (S.1 12) (S.1 53 0).toNat = true) ∨ (x = 1 ∧ 0 < (resS (fun z_ => (S.1 2) (12 * v_ + z_)) (S.1 12) (S.1 4 v_) (S.1 7 0) (S.1 7 1) (S.1 7 2) (S.1 3 v_) (S.1 53 0)).1)) (0 : Int).toNat) := rfl
        rw [← e_]; exact hl
      exact lp_19 (9) 0 T1 (by omega) (by omega) (fun c_ i h1 h2 h3 => hTf c_ i (by omega) h2) (hT62) (hTw) _ _ I ls (lv_sub hl [2, 3, 1, 0] rfl)
    · skip
      refine ri_const X (v := (-1)) dX10_passes_9 ?_
      exact rt_i X hr hlk I rfl (by exact ⟨rfl, fun _ _ _ _ _ => rfl, Or.inl ⟨by omega, rfl⟩⟩) dX10_passes_10
