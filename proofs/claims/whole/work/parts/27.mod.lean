/-! the model: words of its text -/
def lowv (x : Int) : Int := if 65 ≤ x ∧ x ≤ 90 then x + 32 else x
theorem lowv_r {x : Int} : x ≤ lowv x ∧ lowv x ≤ x + 32 := by unfold lowv; split <;> omega
def ltx (t : Int → Int) (L x : Int) : Int := if 0 ≤ x ∧ x < L then t x else 0
abbrev ltS (t : Int → Int) (L : Int) : St := (fun c => if c = 50 then fun _ => L else t, fun n => n)
theorem ltx_tx (t : Int → Int) (L : Int) : txat (ltS t L) = ltx t L := rfl
theorem ltx_r {t : Int → Int} {L : Int} (ht : 0 ≤ L ∧ L ≤ 200) (hc : ∀ i : Int, 0 ≤ i → i < L → 32 ≤ t i ∧ t i ≤ 126) (x : Int) : 0 ≤ ltx t L x ∧ ltx t L x ≤ 126 ∧ (L ≤ x → ltx t L x = 0) := txat_r (S := ltS t L) ht hc x
theorem ltx_b {t : Int → Int} {L : Int} (ht : 0 ≤ L ∧ L ≤ 200) (x : Int) : bItm (ltx t L) x = -1 ∨ (x + 4 < bItm (ltx t L) x ∧ bItm (ltx t L) x ≤ L) := bItm_r (S := ltS t L) ht x
theorem bWor_y {f : Int → Int} {x : Int} (h : ¬ bWor f x = -1) : bWor f x = x + 7 := by
  unfold bWor at h ⊢
  split
  · rfl
  · rename_i q; rw [if_neg q] at h; exact absurd rfl h
/-- a name that is read -/
def rdd (V : Nat → Int → Int) (j : Int) (t : Int → Int) (x : Int) : Prop := V 9 j = sgc t (x + 3) 13 ∧ V 10 j = t (x + 1) - 48 ∧ ∀ k : Int, 0 ≤ k → k < sgc t (x + 3) 13 → V 8 (12 * j + k) = t ((x + 3) + k)
def rdN (F V : Nat → Int → Int) (t : Int → Int) (x : Int) : Prop := V 52 0 = F 52 0 + 1 ∧ rdd V (F 52 0) t x ∧ ∀ (c_ : Nat) (i : Int), ¬ (c_ = 8 ∧ 12 * F 52 0 ≤ i) → ¬ (c_ = 9 ∧ i = F 52 0) → ¬ (c_ = 10 ∧ i = F 52 0) → ¬ c_ = 52 → V c_ i = F c_ i
theorem rdN_of {F U : Nat → Int → Int} {t : Int → Int} {x k i : Int} (h0 : 0 ≤ F 52 0) (hk : k = sgc t (x + 3) 13) (h8 : ∀ y : Int, 0 ≤ y → y < i → U 8 (12 * F 52 0 + y) = t ((x + 3) + y)) (hf : ∀ (c_ : Nat) (y : Int), ¬ (c_ = 8 ∧ 12 * F 52 0 ≤ y) → U c_ y = F c_ y) (hi : k ≤ i := by omega) : rdN F (us (ua (ua U 10 (F 52 0) (t (x + 1) - 48)) 9 (F 52 0) k) 52 (F 52 0 + 1)) t x := by
  refine ⟨us_eq, ⟨?_, ?_, fun y h1 h2 => ?_⟩, fun c_ y a b c d => ?_⟩
  · rw [us_nc (by decide), ua_eq, hk]
  · rw [us_nc (by decide), ua_nc (by decide), ua_eq]
  · rw [us_nc (by decide), ua_nc (by decide), ua_nc (by decide)]
    exact h8 y h1 (by omega)
  · rw [us_nc d, ua_at, if_neg b, ua_at, if_neg c]
    exact hf c_ y a
def rdI (V : Nat → Int → Int) (t : Int → Int) (i : Nat) : Prop := V 52 0 = cnt t i ∧ V 11 0 = scv t i 3 1 ∧ V 11 1 = scv t i 2 3 ∧ V 11 2 = scv t i 1 5 ∧ ∀ k : Nat, k < i → t (itm t k) = 115 → rdd V (cnt t k) t (itm t k)
def rdP (V : Nat → Int → Int) (t : Int → Int) (L : Int) : Prop := ∃ I : Nat, L ≤ itm t I ∧ (∀ k : Nat, k < I → itm t k < L ∧ ¬ bItm t (itm t k) = -1) ∧ cnt t I ≤ 8 ∧ rdI V t I
theorem rdI_0 {F : Nat → Int → Int} {t : Int → Int} : rdI (ua (ua (ua (us F 52 0) 11 0 3) 11 1 2) 11 2 1) t (0 : Int).toNat := by
  refine ⟨?_, ?_, ?_, ?_, fun k h => absurd h (by simp)⟩
  · rw [ua_nc (by decide), ua_nc (by decide), ua_nc (by decide), us_eq]; rfl
  · rw [ua_ni (by decide), ua_ni (by decide), ua_eq]; rfl
  · rw [ua_ni (by decide), ua_eq]; rfl
  · rw [ua_eq]; rfl
theorem scv_s {t : Int → Int} {i : Int} {a : Int} (hi : 0 ≤ i) (ha : a = itm t i.toNat) (ha0 : ¬ a = -1) (d o : Int) : scv t (i + 1).toNat d o = if t a = 119 then t (a + o) - 48 else scv t i.toNat d o := by
  unfold scv
  rw [show (i + 1).toNat = i.toNat + 1 by omega, wsp, ← ha]
  by_cases q : t a = 119
  · rw [if_pos q, if_neg ha0, if_pos q]
  · rw [if_neg q, if_neg q]
theorem rdI_w {U : Nat → Int → Int} {t : Int → Int} {i a : Int} (hi : 0 ≤ i) (ha : a = itm t i.toNat) (ha0 : 0 ≤ a) (hw : t a = 119) (h : rdI U t i.toNat) : rdI (ua (ua (ua U 11 0 (t (a + 1) - 48)) 11 1 (t (a + 3) - 48)) 11 2 (t (a + 5) - 48)) t (i + 1).toNat := by
  obtain ⟨h1, h2, h3, h4, h5⟩ := h
  have e2 := scv_s (t := t) hi ha (by omega)
  refine ⟨?_, ?_, ?_, ?_, fun k hk q => ?_⟩
  · rw [ua_nc (by decide), ua_nc (by decide), ua_nc (by decide), h1, cnt_s hi, ← ha, if_neg (by omega)]; omega
  · rw [ua_ni (by decide), ua_ni (by decide), ua_eq, e2, if_pos hw]
  · rw [ua_ni (by decide), ua_eq, e2, if_pos hw]
  · rw [ua_eq, e2, if_pos hw]
  · have hk2 : k < i.toNat := by
      rcases Nat.lt_or_ge k i.toNat with z | z
      · exact z
      · have : k = i.toNat := by omega
        subst this
        rw [← ha] at q; omega
    obtain ⟨g1, g2, g3⟩ := h5 k hk2 q
    refine ⟨?_, ?_, fun y y1 y2 => ?_⟩
    · rw [ua_nc (by decide), ua_nc (by decide), ua_nc (by decide)]; exact g1
    · rw [ua_nc (by decide), ua_nc (by decide), ua_nc (by decide)]; exact g2
    · rw [ua_nc (by decide), ua_nc (by decide), ua_nc (by decide)]; exact g3 y y1 y2
theorem bItm_n {f : Int → Int} {x : Int} (h : f x = 115) (hi : ¬ bItm f x = -1) : (48 ≤ f (x + 1) ∧ f (x + 1) ≤ 48 + 3) ∧ f (x + 2) = 44 ∧ 1 ≤ sgc f (x + 3) 13 ∧ sgc f (x + 3) 13 ≤ 12 ∧ f ((x + 3) + sgc f (x + 3) 13) = 59 := by
  unfold bItm at hi
  rw [if_pos h] at hi
  exact bNam_v hi
theorem rdI_n {U V : Nat → Int → Int} {t : Int → Int} {i a : Int} (hi : 0 ≤ i) (ha : a = itm t i.toNat) (hs : t a = 115) (h : rdI U t i.toNat) (hn : rdN U V t a) (hall : ∀ k : Nat, k < i.toNat → ¬ bItm t (itm t k) = -1) (ha0 : 0 ≤ a := by omega) : rdI V t (i + 1).toNat := by
  obtain ⟨h1, h2, h3, h4, h5⟩ := h
  obtain ⟨n1, n2, n3⟩ := hn
  have e2 := scv_s (t := t) hi ha (by omega)
  have hcj := cnt_0 t i.toNat
  refine ⟨?_, ?_, ?_, ?_, fun k hk q => ?_⟩
  · rw [n1, h1, cnt_s hi, ← ha, if_pos hs]
  · rw [n3 11 0 (by omega) (by omega) (by omega) (by omega), h2, e2, if_neg (by omega)]
  · rw [n3 11 1 (by omega) (by omega) (by omega) (by omega), h3, e2, if_neg (by omega)]
  · rw [n3 11 2 (by omega) (by omega) (by omega) (by omega), h4, e2, if_neg (by omega)]
  · rcases Nat.lt_or_ge k i.toNat with z | z
    · have hl := cnt_lt z q
      obtain ⟨g1, g2, g3⟩ := h5 k z q
      have hb := bItm_n q (hall k z)
      refine ⟨?_, ?_, fun y y1 y2 => ?_⟩
      · rw [n3 9 _ (by omega) (by omega) (by omega) (by omega)]; exact g1
      · rw [n3 10 _ (by omega) (by omega) (by omega) (by omega)]; exact g2
      · rw [n3 8 _ (by omega) (by omega) (by omega) (by omega)]; exact g3 y y1 y2
    · have : k = i.toNat := by omega
      subst this
      rw [← h1, ← ha]; exact n2

theorem ok_X10_isSmall : yX10_isSmall.cls ≠ "java/lang/invoke/MethodHandle" ∧ yX10_isSmall.cls ≠ "java/lang/invoke/VarHandle" ∧ (parseMethodDescriptor yX10_isSmall.desc).map (fun d => d.parameters.length) = some 1 := ⟨by decide +kernel, by decide +kernel, by decide +kernel⟩
abbrev po_X10_isSmall (S : St)  (x : Int) : Int → St → Prop := fun r S1 => r = bI (97 ≤ x ∧ x ≤ 122) ∧ S1 = S
abbrev rm_X10_isSmall : Room := ({ frames := 0, cells := 0, slots := 0, locals := 0 } : Room)
set_option maxRecDepth 100000 in
set_option maxHeartbeats 4000000 in
theorem k_X10_isSmall (l : Launch) (G : Ge) (S : St)  (x : Int)  (hx : -2147483648 ≤ x ∧ x < 2147483648) : Ki (KM G) l yX10_isSmall cX10_isSmall 1 .boolean rm_X10_isSmall [.int (iI x)] S (po_X10_isSmall S x) := by
  refine K_start (own := "NameSeekerModel") (by decide +kernel) rfl (Nat.le_of_ble_eq_true rfl) ?_
  intro p e s m args below meth c X hr hlk I ls hl
  have hl : lv_has ls 1 [(0, .int (iI x))] := hl
  refine lv_iload_n X.1 X.2.1 dX10_isSmall_0 rfl (lv_at hl 0 rfl) ?_
  refine ri_push X (v := 97) (by decide) dX10_isSmall_1 ?_
  refine rj_lt (tgt := 16) X (by omega) (by omega) dX10_isSmall_3 (by decide) (fun c1 => ?_) (fun c1 => ?_)
  · skip
    refine ri_const X (v := 0) dX10_isSmall_16 ?_
    exact rt_i X hr hlk I (by rfl) (by refine ⟨(bI_f ?_).symm, rfl⟩; omega) dX10_isSmall_17
  · skip
    refine lv_iload_n X.1 X.2.1 dX10_isSmall_6 rfl (lv_at hl 0 rfl) ?_
    refine ri_push X (v := 122) (by decide) dX10_isSmall_7 ?_
    refine rj_gt (tgt := 16) X (by omega) (by omega) dX10_isSmall_9 (by decide) (fun c2 => ?_) (fun c2 => ?_)
    · skip
      refine ri_const X (v := 0) dX10_isSmall_16 ?_
      exact rt_i X hr hlk I (by rfl) (by refine ⟨(bI_f ?_).symm, rfl⟩; omega) dX10_isSmall_17
    · skip
      refine ri_const X (v := 1) dX10_isSmall_12 ?_
      refine lv_goto (tgt := 17) X.1 X.2.1 dX10_isSmall_13 (by decide) ?_
      exact rt_i X hr hlk I (by rfl) (by refine ⟨(bI_t ?_).symm, rfl⟩; omega) dX10_isSmall_17

theorem ok_X10_isGreat : yX10_isGreat.cls ≠ "java/lang/invoke/MethodHandle" ∧ yX10_isGreat.cls ≠ "java/lang/invoke/VarHandle" ∧ (parseMethodDescriptor yX10_isGreat.desc).map (fun d => d.parameters.length) = some 1 := ⟨by decide +kernel, by decide +kernel, by decide +kernel⟩
abbrev po_X10_isGreat (S : St)  (x : Int) : Int → St → Prop := fun r S1 => r = bI (65 ≤ x ∧ x ≤ 90) ∧ S1 = S
abbrev rm_X10_isGreat : Room := ({ frames := 0, cells := 0, slots := 0, locals := 0 } : Room)
set_option maxRecDepth 100000 in
set_option maxHeartbeats 4000000 in
theorem k_X10_isGreat (l : Launch) (G : Ge) (S : St)  (x : Int)  (hx : -2147483648 ≤ x ∧ x < 2147483648) : Ki (KM G) l yX10_isGreat cX10_isGreat 1 .boolean rm_X10_isGreat [.int (iI x)] S (po_X10_isGreat S x) := by
  refine K_start (own := "NameSeekerModel") (by decide +kernel) rfl (Nat.le_of_ble_eq_true rfl) ?_
  intro p e s m args below meth c X hr hlk I ls hl
  have hl : lv_has ls 1 [(0, .int (iI x))] := hl
  refine lv_iload_n X.1 X.2.1 dX10_isGreat_0 rfl (lv_at hl 0 rfl) ?_
  refine ri_push X (v := 65) (by decide) dX10_isGreat_1 ?_
  refine rj_lt (tgt := 16) X (by omega) (by omega) dX10_isGreat_3 (by decide) (fun c1 => ?_) (fun c1 => ?_)
  · skip
    refine ri_const X (v := 0) dX10_isGreat_16 ?_
    exact rt_i X hr hlk I (by rfl) (by refine ⟨(bI_f ?_).symm, rfl⟩; omega) dX10_isGreat_17
  · skip
    refine lv_iload_n X.1 X.2.1 dX10_isGreat_6 rfl (lv_at hl 0 rfl) ?_
    refine ri_push X (v := 90) (by decide) dX10_isGreat_7 ?_
    refine rj_gt (tgt := 16) X (by omega) (by omega) dX10_isGreat_9 (by decide) (fun c2 => ?_) (fun c2 => ?_)
    · skip
      refine ri_const X (v := 0) dX10_isGreat_16 ?_
      exact rt_i X hr hlk I (by rfl) (by refine ⟨(bI_f ?_).symm, rfl⟩; omega) dX10_isGreat_17
    · skip
      refine ri_const X (v := 1) dX10_isGreat_12 ?_
      refine lv_goto (tgt := 17) X.1 X.2.1 dX10_isGreat_13 (by decide) ?_
      exact rt_i X hr hlk I (by rfl) (by refine ⟨(bI_t ?_).symm, rfl⟩; omega) dX10_isGreat_17

theorem ok_X10_isSign : yX10_isSign.cls ≠ "java/lang/invoke/MethodHandle" ∧ yX10_isSign.cls ≠ "java/lang/invoke/VarHandle" ∧ (parseMethodDescriptor yX10_isSign.desc).map (fun d => d.parameters.length) = some 1 := ⟨by decide +kernel, by decide +kernel, by decide +kernel⟩
abbrev po_X10_isSign (S : St)  (x : Int) : Int → St → Prop := fun r S1 => r = bI ((97 ≤ x ∧ x ≤ 122) ∨ (65 ≤ x ∧ x ≤ 90) ∨ x = 95) ∧ S1 = S
abbrev rm_X10_isSign : Room := ({ frames := 1, cells := 0, slots := 0, locals := 20 } : Room)
set_option maxRecDepth 100000 in
set_option maxHeartbeats 4000000 in
theorem k_X10_isSign (l : Launch) (G : Ge) (S : St)  (x : Int)  (hx : -2147483648 ≤ x ∧ x < 2147483648) : Ki (KM G) l yX10_isSign cX10_isSign 1 .boolean rm_X10_isSign [.int (iI x)] S (po_X10_isSign S x) := by
  refine K_start (own := "NameSeekerModel") (by decide +kernel) rfl (Nat.le_of_ble_eq_true rfl) ?_
  intro p e s m args below meth c X hr hlk I ls hl
  have hl : lv_has ls 1 [(0, .int (iI x))] := hl
  refine lv_iload_n X.1 X.2.1 dX10_isSign_0 rfl (lv_at hl 0 rfl) ?_
  refine cl_i I (runS (As := [.int (iI x)]) (rest := []) X (k_X10_isSmall l G S  x  (by omega)) (gdC tb_851 gdB) tb_849 tb_850 tb_48 ⟨ok_X10_isSmall, ⟨Nat.le_of_ble_eq_true rfl, Nat.le_of_ble_eq_true rfl⟩, rfl, rfl⟩ (PreS.of I) rfl hl.1 rfl (Nat.le_of_ble_eq_true rfl) dX10_isSign_1 ⟨Nat.zero_le _, Nat.zero_le _⟩) (fun r1 S2 H locs q3 I => ?_)
  obtain ⟨e1_, e2_⟩ := q3
  rw [e2_] at I
  rw [e1_]
  clear e1_ e2_
  rcases Decidable.em ((97 ≤ (x) ∧ (x) ≤ 122)) with b4 | b4
  · rw [bI_t b4]
    refine rz_ne (tgt := 20) X (by omega) dX10_isSign_4 (by decide) (fun _ => ?_) (fun c5 => absurd c5 (by decide))
    refine ri_const X (v := 1) dX10_isSign_20 ?_
    refine lv_goto (tgt := 25) X.1 X.2.1 dX10_isSign_21 (by decide) ?_
    exact rt_i X hr hlk I (by rfl) (by refine ⟨(bI_t ?_).symm, rfl⟩; omega) dX10_isSign_25
  · rw [bI_f b4]
    refine rz_ne (tgt := 20) X (by omega) dX10_isSign_4 (by decide) (fun c6 => absurd c6 (by decide)) (fun _ => ?_)
    refine lv_iload_n X.1 X.2.1 dX10_isSign_7 rfl (lv_at hl 0 rfl) ?_
    refine cl_i I (runS (As := [.int (iI x)]) (rest := []) X (k_X10_isGreat l G S  x  (by omega)) (gdC tb_854 gdB) tb_852 tb_853 tb_48 ⟨ok_X10_isGreat, ⟨Nat.le_of_ble_eq_true rfl, Nat.le_of_ble_eq_true rfl⟩, rfl, rfl⟩ (PreS.of I) rfl hl.1 rfl (Nat.le_of_ble_eq_true rfl) dX10_isSign_8 ⟨Nat.zero_le _, Nat.zero_le _⟩) (fun r7 S8 H locs q9 I => ?_)
    obtain ⟨e1_, e2_⟩ := q9
    rw [e2_] at I
    rw [e1_]
    clear e1_ e2_
    rcases Decidable.em ((65 ≤ (x) ∧ (x) ≤ 90)) with b10 | b10
    · rw [bI_t b10]
      refine rz_ne (tgt := 20) X (by omega) dX10_isSign_11 (by decide) (fun _ => ?_) (fun c11 => absurd c11 (by decide))
      refine ri_const X (v := 1) dX10_isSign_20 ?_
      refine lv_goto (tgt := 25) X.1 X.2.1 dX10_isSign_21 (by decide) ?_
      exact rt_i X hr hlk I (by rfl) (by refine ⟨(bI_t ?_).symm, rfl⟩; omega) dX10_isSign_25
    · rw [bI_f b10]
      refine rz_ne (tgt := 20) X (by omega) dX10_isSign_11 (by decide) (fun c12 => absurd c12 (by decide)) (fun _ => ?_)
      refine lv_iload_n X.1 X.2.1 dX10_isSign_14 rfl (lv_at hl 0 rfl) ?_
      refine ri_push X (v := 95) (by decide) dX10_isSign_15 ?_
      refine rj_ne (tgt := 24) X (by omega) (by omega) dX10_isSign_17 (by decide) (fun c13 => ?_) (fun c13 => ?_)
      · skip
        refine ri_const X (v := 0) dX10_isSign_24 ?_
        exact rt_i X hr hlk I (by rfl) (by refine ⟨(bI_f ?_).symm, rfl⟩; omega) dX10_isSign_25
      · skip
        refine ri_const X (v := 1) dX10_isSign_20 ?_
        refine lv_goto (tgt := 25) X.1 X.2.1 dX10_isSign_21 (by decide) ?_
        exact rt_i X hr hlk I (by rfl) (by refine ⟨(bI_t ?_).symm, rfl⟩; omega) dX10_isSign_25

theorem ok_X10_low : yX10_low.cls ≠ "java/lang/invoke/MethodHandle" ∧ yX10_low.cls ≠ "java/lang/invoke/VarHandle" ∧ (parseMethodDescriptor yX10_low.desc).map (fun d => d.parameters.length) = some 1 := ⟨by decide +kernel, by decide +kernel, by decide +kernel⟩
abbrev po_X10_low (S : St)  (x : Int) : Int → St → Prop := fun r S1 => r = lowv x ∧ S1 = S
abbrev rm_X10_low : Room := ({ frames := 1, cells := 0, slots := 0, locals := 20 } : Room)
set_option maxRecDepth 100000 in
set_option maxHeartbeats 4000000 in
theorem k_X10_low (l : Launch) (G : Ge) (S : St)  (x : Int)  (hx : 0 ≤ x ∧ x ≤ 100000) : Ki (KM G) l yX10_low cX10_low 1 .int rm_X10_low [.int (iI x)] S (po_X10_low S x) := by
  refine K_start (own := "NameSeekerModel") (by decide +kernel) rfl (Nat.le_of_ble_eq_true rfl) ?_
  intro p e s m args below meth c X hr hlk I ls hl
  have hl : lv_has ls 1 [(0, .int (iI x))] := hl
  refine lv_iload_n X.1 X.2.1 dX10_low_0 rfl (lv_at hl 0 rfl) ?_
  refine cl_i I (runS (As := [.int (iI x)]) (rest := []) X (k_X10_isGreat l G S  x  (by omega)) (gdC tb_854 gdB) tb_852 tb_853 tb_48 ⟨ok_X10_isGreat, ⟨Nat.le_of_ble_eq_true rfl, Nat.le_of_ble_eq_true rfl⟩, rfl, rfl⟩ (PreS.of I) rfl hl.1 rfl (Nat.le_of_ble_eq_true rfl) dX10_low_1 ⟨Nat.zero_le _, Nat.zero_le _⟩) (fun r1 S2 H locs q3 I => ?_)
  obtain ⟨e1_, e2_⟩ := q3
  rw [e2_] at I
  rw [e1_]
  clear e1_ e2_
  rcases Decidable.em ((65 ≤ (x) ∧ (x) ≤ 90)) with b4 | b4
  · rw [bI_t b4]
    refine rz_eq (tgt := 17) X (by omega) dX10_low_4 (by decide) (fun c5 => absurd c5 (by decide)) (fun _ => ?_)
    refine lv_iload_n X.1 X.2.1 dX10_low_7 rfl (lv_at hl 0 rfl) ?_
    refine ri_push X (v := 65) (by decide) dX10_low_8 ?_
    refine ri_sub X (v := (x - 65)) rfl dX10_low_10 ?_
    refine ri_push X (v := 97) (by decide) dX10_low_11 ?_
    refine ri_add X (v := ((x - 65) + 97)) rfl dX10_low_13 ?_
    refine lv_goto (tgt := 18) X.1 X.2.1 dX10_low_14 (by decide) ?_
    exact rt_i X hr hlk I rfl (by first | (refine ⟨?_, rfl⟩; (unfold lowv; first | (rw [if_pos (by omega)]; omega) | rw [if_neg (by omega)]); done) | (exfalso; omega)) dX10_low_18
  · rw [bI_f b4]
    refine rz_eq (tgt := 17) X (by omega) dX10_low_4 (by decide) (fun _ => ?_) (fun c6 => absurd c6 (fun q => q (by decide)))
    refine lv_iload_n X.1 X.2.1 dX10_low_17 rfl (lv_at hl 0 rfl) ?_
    exact rt_i X hr hlk I rfl (by first | (refine ⟨?_, rfl⟩; (unfold lowv; first | (rw [if_pos (by omega)]; omega) | rw [if_neg (by omega)]); done) | (exfalso; omega)) dX10_low_18

theorem ok_X10_letterAt : yX10_letterAt.cls ≠ "java/lang/invoke/MethodHandle" ∧ yX10_letterAt.cls ≠ "java/lang/invoke/VarHandle" ∧ (parseMethodDescriptor yX10_letterAt.desc).map (fun d => d.parameters.length) = some 1 := ⟨by decide +kernel, by decide +kernel, by decide +kernel⟩
abbrev po_X10_letterAt (S : St)  (x : Int) (t : Int → Int) (L_ : Int) : Int → St → Prop := fun r S1 => r = ltx t L_ x ∧ S1 = S
abbrev rm_X10_letterAt : Room := ({ frames := 0, cells := 0, slots := 0, locals := 0 } : Room)
set_option maxRecDepth 100000 in
set_option maxHeartbeats 4000000 in
theorem k_X10_letterAt (l : Launch) (G : Ge) (S : St)  (x : Int) (t : Int → Int) (L_ : Int) (e_t : ∀ i : Int, S.1 1 i = t i) (e_L_ : S.1 50 0 = L_) (hx : 0 ≤ x ∧ x ≤ 1000) (ht : 0 ≤ L_ ∧ L_ ≤ 200) (hc : ∀ i : Int, 0 ≤ i → i < L_ → 32 ≤ t i ∧ t i ≤ 126) : Ki (KM G) l yX10_letterAt cX10_letterAt 2 .int rm_X10_letterAt [.ref (G.2.2 0), .int (iI x)] S (po_X10_letterAt S x t L_) := by
  refine K_start (own := "NameSeekerModel") (by decide +kernel) rfl (Nat.le_of_ble_eq_true rfl) ?_
  intro p e s m args below meth c X hr hlk I ls hl
  have hl : lv_has ls 2 [(0, .ref (G.2.2 0)), (1, .int (iI x))] := hl
  refine lv_iload_n X.1 X.2.1 dX10_letterAt_0 rfl (lv_at hl 1 rfl) ?_
  refine lv_aload_n X.1 X.2.1 dX10_letterAt_1 rfl (lv_at hl 0 rfl) ?_
  refine gM_model_length X I (v := L_) e_L_ tb_694 dX10_letterAt_2 ?_
  refine rj_ge (tgt := 17) X (by omega) (by omega) dX10_letterAt_5 (by decide) (fun c1 => ?_) (fun c1 => ?_)
  · skip
    refine ri_const X (v := 0) dX10_letterAt_17 ?_
    exact rt_i X hr hlk I rfl (by first | (refine ⟨?_, rfl⟩; (unfold ltx; first | rw [if_pos (by omega)] | rw [if_neg (by omega)]); done) | (exfalso; omega)) dX10_letterAt_18
  · skip
    refine lv_aload_n X.1 X.2.1 dX10_letterAt_8 rfl (lv_at hl 0 rfl) ?_
    refine gM_model_text X I tb_695 dX10_letterAt_9 ?_
    refine lv_iload_n X.1 X.2.1 dX10_letterAt_12 rfl (lv_at hl 1 rfl) ?_
    refine aM_text X I (v := (t x)) (e_t x) (by omega) dX10_letterAt_13 ?_
    refine lv_goto (tgt := 18) X.1 X.2.1 dX10_letterAt_14 (by decide) ?_
    exact rt_i X hr hlk I rfl (by first | (refine ⟨?_, rfl⟩; (unfold ltx; first | rw [if_pos (by omega)] | rw [if_neg (by omega)]); done) | (exfalso; omega)) dX10_letterAt_18

theorem ok_X10_isFigure : yX10_isFigure.cls ≠ "java/lang/invoke/MethodHandle" ∧ yX10_isFigure.cls ≠ "java/lang/invoke/VarHandle" ∧ (parseMethodDescriptor yX10_isFigure.desc).map (fun d => d.parameters.length) = some 2 := ⟨by decide +kernel, by decide +kernel, by decide +kernel⟩
abbrev po_X10_isFigure (S : St)  (x : Int) (u : Int) (t : Int → Int) (L_ : Int) : Int → St → Prop := fun r S1 => r = bI (48 ≤ ltx t L_ x ∧ ltx t L_ x ≤ 48 + u) ∧ S1 = S
abbrev rm_X10_isFigure : Room := ({ frames := 1, cells := 0, slots := 0, locals := 21 } : Room)
set_option maxRecDepth 100000 in
set_option maxHeartbeats 4000000 in
theorem k_X10_isFigure (l : Launch) (G : Ge) (S : St)  (x : Int) (u : Int) (t : Int → Int) (L_ : Int) (e_t : ∀ i : Int, S.1 1 i = t i) (e_L_ : S.1 50 0 = L_) (hx : 0 ≤ x ∧ x ≤ 1000) (hu : 0 ≤ u ∧ u ≤ 9) (ht : 0 ≤ L_ ∧ L_ ≤ 200) (hc : ∀ i : Int, 0 ≤ i → i < L_ → 32 ≤ t i ∧ t i ≤ 126) : Ki (KM G) l yX10_isFigure cX10_isFigure 3 .boolean rm_X10_isFigure [.ref (G.2.2 0), .int (iI x), .int (iI u)] S (po_X10_isFigure S x u t L_) := by
  refine K_start (own := "NameSeekerModel") (by decide +kernel) rfl (Nat.le_of_ble_eq_true rfl) ?_
  intro p e s m args below meth c X hr hlk I ls hl
  have hl : lv_has ls 3 [(0, .ref (G.2.2 0)), (1, .int (iI x)), (2, .int (iI u))] := hl
  refine lv_aload_n X.1 X.2.1 dX10_isFigure_0 rfl (lv_at hl 0 rfl) ?_
  refine lv_iload_n X.1 X.2.1 dX10_isFigure_1 rfl (lv_at hl 1 rfl) ?_
  refine cl_i I (runV (As := [.int (iI x)]) (rest := []) X (k_X10_letterAt l G S  x (t) L_ (fun i_ => (e_t i_)) e_L_ (by omega) ht hc) (gdC tb_842 (gdC tb_844 (gdC tb_16 (gdC tb_48 (gdC tb_845 gdB))))) ⟨ok_X10_letterAt, ⟨Nat.le_of_ble_eq_true rfl, Nat.le_of_ble_eq_true rfl⟩, rfl, rfl⟩ (PreV.of (C := RX10) (T := TX10) (N := 41) I (atM_model) rfl) rfl hl.1 rfl (Nat.le_of_ble_eq_true rfl) dX10_isFigure_2 ⟨Nat.zero_le _, Nat.zero_le _⟩) (fun r1 S2 H locs q3 I => ?_)
  obtain ⟨e1_, e2_⟩ := q3
  rw [e2_] at I
  rw [e1_]
  clear e1_ e2_
  have t4 := ltx_r ht hc x
  refine ri_push X (v := 48) (by decide) dX10_isFigure_5 ?_
  refine rj_lt (tgt := 26) X (by omega) (by omega) dX10_isFigure_7 (by decide) (fun c5 => ?_) (fun c5 => ?_)
  · skip
    refine ri_const X (v := 0) dX10_isFigure_26 ?_
    exact rt_i X hr hlk I (by rfl) (by refine ⟨(bI_f ?_).symm, rfl⟩; omega) dX10_isFigure_27
  · skip
    refine lv_aload_n X.1 X.2.1 dX10_isFigure_10 rfl (lv_at hl 0 rfl) ?_
    refine lv_iload_n X.1 X.2.1 dX10_isFigure_11 rfl (lv_at hl 1 rfl) ?_
    refine cl_i I (runV (As := [.int (iI x)]) (rest := []) X (k_X10_letterAt l G S  x (t) L_ (fun i_ => (e_t i_)) e_L_ (by omega) ht hc) (gdC tb_842 (gdC tb_844 (gdC tb_16 (gdC tb_48 (gdC tb_845 gdB))))) ⟨ok_X10_letterAt, ⟨Nat.le_of_ble_eq_true rfl, Nat.le_of_ble_eq_true rfl⟩, rfl, rfl⟩ (PreV.of (C := RX10) (T := TX10) (N := 41) I (atM_model) rfl) rfl hl.1 rfl (Nat.le_of_ble_eq_true rfl) dX10_isFigure_12 ⟨Nat.zero_le _, Nat.zero_le _⟩) (fun r6 S7 H locs q8 I => ?_)
    obtain ⟨e1_, e2_⟩ := q8
    rw [e2_] at I
    rw [e1_]
    clear e1_ e2_
    have t9 := ltx_r ht hc x
    refine ri_push X (v := 48) (by decide) dX10_isFigure_15 ?_
    refine lv_iload_n X.1 X.2.1 dX10_isFigure_17 rfl (lv_at hl 2 rfl) ?_
    refine ri_add X (v := (48 + u)) rfl dX10_isFigure_18 ?_
    refine rj_gt (tgt := 26) X (by omega) (by omega) dX10_isFigure_19 (by decide) (fun c10 => ?_) (fun c10 => ?_)
    · skip
      refine ri_const X (v := 0) dX10_isFigure_26 ?_
      exact rt_i X hr hlk I (by rfl) (by refine ⟨(bI_f ?_).symm, rfl⟩; omega) dX10_isFigure_27
    · skip
      refine ri_const X (v := 1) dX10_isFigure_22 ?_
      refine lv_goto (tgt := 27) X.1 X.2.1 dX10_isFigure_23 (by decide) ?_
      exact rt_i X hr hlk I (by rfl) (by refine ⟨(bI_t ?_).symm, rfl⟩; omega) dX10_isFigure_27

theorem ok_X10_readsName : yX10_readsName.cls ≠ "java/lang/invoke/MethodHandle" ∧ yX10_readsName.cls ≠ "java/lang/invoke/VarHandle" ∧ (parseMethodDescriptor yX10_readsName.desc).map (fun d => d.parameters.length) = some 1 := ⟨by decide +kernel, by decide +kernel, by decide +kernel⟩
abbrev po_X10_readsName (S : St)  (x : Int) (t : Int → Int) (L_ : Int) : Int → St → Prop := fun r S1 => (((S.1 52 0) = 8 ∨ bNam (ltx t L_) x = -1) ∧ r = -1 ∧ S1 = S) ∨ ((S.1 52 0) < 8 ∧ ¬ bNam (ltx t L_) x = -1 ∧ r = bNam (ltx t L_) x ∧ S1.2 = S.2 ∧ rdN S.1 S1.1 (ltx t L_) x)
abbrev rm_X10_readsName : Room := ({ frames := 2, cells := 0, slots := 0, locals := 43 } : Room)
set_option maxRecDepth 100000 in
set_option maxHeartbeats 4000000 in
theorem k_X10_readsName (l : Launch) (G : Ge) (S : St)  (x : Int) (t : Int → Int) (L_ : Int) (e_t : ∀ i : Int, S.1 1 i = t i) (e_L_ : S.1 50 0 = L_) (hx : 0 ≤ x ∧ x ≤ 200) (hrn : 0 ≤ (S.1 52 0) ∧ (S.1 52 0) ≤ 8) (ht : 0 ≤ L_ ∧ L_ ≤ 200) (hc : ∀ i : Int, 0 ≤ i → i < L_ → 32 ≤ t i ∧ t i ≤ 126) : Ki (KM G) l yX10_readsName cX10_readsName 4 .int rm_X10_readsName [.ref (G.2.2 0), .int (iI x)] S (po_X10_readsName S x t L_) := by
  refine K_start (own := "NameSeekerModel") (by decide +kernel) rfl (Nat.le_of_ble_eq_true rfl) ?_
  intro p e s m args below meth c X hr hlk I ls hl
  have hl : lv_has ls 4 [(0, .ref (G.2.2 0)), (1, .int (iI x))] := hl
  refine lv_aload_n X.1 X.2.1 dX10_readsName_0 rfl (lv_at hl 0 rfl) ?_
  refine gM_model_readNames X I (v := (S.1 52 0)) rfl tb_703 dX10_readsName_1 ?_
  refine ri_push X (v := 8) (by decide) dX10_readsName_4 ?_
  refine rj_eq (tgt := 32) X (by omega) (by omega) dX10_readsName_6 (by decide) (fun c1 => ?_) (fun c1 => ?_)
  · skip
    refine ri_const X (v := (-1)) dX10_readsName_32 ?_
    exact rt_i X hr hlk I rfl (by first | exact Or.inl ⟨Or.inl (by omega), rfl, rfl⟩ | exact Or.inl ⟨Or.inr (by unfold bNam; rw [if_neg (by omega)]), rfl, rfl⟩) dX10_readsName_33
  · skip
    refine lv_aload_n X.1 X.2.1 dX10_readsName_9 rfl (lv_at hl 0 rfl) ?_
    refine lv_iload_n X.1 X.2.1 dX10_readsName_10 rfl (lv_at hl 1 rfl) ?_
    refine ri_const X (v := 1) dX10_readsName_11 ?_
    refine ri_add X (v := (x + 1)) rfl dX10_readsName_12 ?_
    refine ri_const X (v := 3) dX10_readsName_13 ?_
    refine cl_i I (runV (As := [.int (iI (x + 1)), .int (iI 3)]) (rest := []) X (k_X10_isFigure l G S  (x + 1) 3 (t) L_ (fun i_ => (e_t i_)) e_L_ (by omega) (by omega) ht hc) (gdC tb_838 (gdC tb_840 (gdC tb_15 (gdC tb_48 (gdC tb_841 gdB))))) ⟨ok_X10_isFigure, ⟨Nat.le_of_ble_eq_true rfl, Nat.le_of_ble_eq_true rfl⟩, rfl, rfl⟩ (PreV.of (C := RX10) (T := TX10) (N := 41) I (atM_model) rfl) rfl hl.1 rfl (Nat.le_of_ble_eq_true rfl) dX10_readsName_14 ⟨Nat.zero_le _, Nat.zero_le _⟩) (fun r2 S3 H locs q4 I => ?_)
    obtain ⟨e1_, e2_⟩ := q4
    rw [e2_] at I
    rw [e1_]
    clear e1_ e2_
    rcases Decidable.em ((48 ≤ ltx t L_ (x + 1) ∧ ltx t L_ (x + 1) ≤ 48 + 3)) with b5 | b5
    · rw [bI_t b5]
      refine rz_eq (tgt := 32) X (by omega) dX10_readsName_17 (by decide) (fun c6 => absurd c6 (by decide)) (fun _ => ?_)
      refine lv_aload_n X.1 X.2.1 dX10_readsName_20 rfl (lv_at hl 0 rfl) ?_
      refine lv_iload_n X.1 X.2.1 dX10_readsName_21 rfl (lv_at hl 1 rfl) ?_
      refine ri_const X (v := 2) dX10_readsName_22 ?_
      refine ri_add X (v := (x + 2)) rfl dX10_readsName_23 ?_
      refine cl_i I (runV (As := [.int (iI (x + 2))]) (rest := []) X (k_X10_letterAt l G S  (x + 2) (t) L_ (fun i_ => (e_t i_)) e_L_ (by omega) ht hc) (gdC tb_842 (gdC tb_844 (gdC tb_16 (gdC tb_48 (gdC tb_845 gdB))))) ⟨ok_X10_letterAt, ⟨Nat.le_of_ble_eq_true rfl, Nat.le_of_ble_eq_true rfl⟩, rfl, rfl⟩ (PreV.of (C := RX10) (T := TX10) (N := 41) I (atM_model) rfl) rfl hl.1 rfl (Nat.le_of_ble_eq_true rfl) dX10_readsName_24 ⟨Nat.zero_le _, Nat.zero_le _⟩) (fun r7 S8 H locs q9 I => ?_)
      obtain ⟨e1_, e2_⟩ := q9
      rw [e2_] at I
      rw [e1_]
      clear e1_ e2_
      have t10 := ltx_r ht hc (x + 2)
      refine ri_push X (v := 44) (by decide) dX10_readsName_27 ?_
      refine rj_eq (tgt := 34) X (by omega) (by omega) dX10_readsName_29 (by decide) (fun c11 => ?_) (fun c11 => ?_)
      · skip
        refine ri_const X (v := 0) dX10_readsName_34 ?_
        refine lv_istore_n (lv' := [(2, .int (iI 0)), (0, .ref (G.2.2 0)), (1, .int (iI x))]) X.1 X.2.1 dX10_readsName_35 rfl hl (by decide) rfl (fun ls hl => ?_)
        have lp_36 : ∀ (fu_ : Nat) (k : Int), (13 - k).toNat < fu_ → ∀ (hk0 : 0 ≤ k ∧ k ≤ 13) (hk1 : k + sgc (ltx t L_) ((x + 3) + k) (13 - k).toNat = sgc (ltx t L_) (x + 3) 13) (H : Heap) (locs : List Loc), In (KM G) s s.heap H locs S → ∀ ls : Array Slot, lv_has ls 4 [(0, .ref (G.2.2 0)), (1, .int (iI x)), (2, .int (iI k))] → W p l e rm_X10_readsName s m args below meth c H locs 0 0 (MQ below (QI (KM G) (po_X10_readsName S x t L_)) args s 0 0 (KM G).2.2.2) (F0 m 36 ls []) := by
          intro fu_
          induction fu_ with
          | zero => intro k hm; exact absurd hm (by omega)
          | succ fu_ ih_36 =>
            intro k hm_36 hk0 hk1 H locs I ls hl
            refine lv_iload_n X.1 X.2.1 dX10_readsName_36 rfl (lv_at hl 2 rfl) ?_
            refine ri_push X (v := 13) (by decide) dX10_readsName_37 ?_
            refine rj_ge (tgt := 63) X (by omega) (by omega) dX10_readsName_39 (by decide) (fun c12 => ?_) (fun c12 => ?_)
            · skip
              have hk : k = sgc (ltx t L_) (x + 3) 13 := by
                rw [← hk1]
                first | (rw [show (13 - k).toNat = 0 by omega, sgc]; omega) | (rw [sgc_no _ (by omega)]; omega)
              refine lv_iload_n X.1 X.2.1 dX10_readsName_63 rfl (lv_at hl 2 rfl) ?_
              refine rz_eq (tgt := 87) X (by omega) dX10_readsName_64 (by decide) (fun c13 => ?_) (fun c13 => ?_)
              · skip
                refine ri_const X (v := (-1)) dX10_readsName_87 ?_
                exact rt_i X hr hlk I rfl (by exact Or.inl ⟨Or.inr (by unfold bNam; rw [← hk, if_neg (by omega)]), rfl, rfl⟩) dX10_readsName_88
              · skip
                refine lv_iload_n X.1 X.2.1 dX10_readsName_67 rfl (lv_at hl 2 rfl) ?_
                refine ri_push X (v := 13) (by decide) dX10_readsName_68 ?_
                refine rj_eq (tgt := 87) X (by omega) (by omega) dX10_readsName_70 (by decide) (fun c14 => ?_) (fun c14 => ?_)
                · skip
                  refine ri_const X (v := (-1)) dX10_readsName_87 ?_
                  exact rt_i X hr hlk I rfl (by exact Or.inl ⟨Or.inr (by unfold bNam; rw [← hk, if_neg (by omega)]), rfl, rfl⟩) dX10_readsName_88
                · skip
                  refine lv_aload_n X.1 X.2.1 dX10_readsName_73 rfl (lv_at hl 0 rfl) ?_
                  refine lv_iload_n X.1 X.2.1 dX10_readsName_74 rfl (lv_at hl 1 rfl) ?_
                  refine ri_const X (v := 3) dX10_readsName_75 ?_
                  refine ri_add X (v := (x + 3)) rfl dX10_readsName_76 ?_
                  refine lv_iload_n X.1 X.2.1 dX10_readsName_77 rfl (lv_at hl 2 rfl) ?_
                  refine ri_add X (v := ((x + 3) + k)) rfl dX10_readsName_78 ?_
                  refine cl_i I (runV (As := [.int (iI ((x + 3) + k))]) (rest := []) X (k_X10_letterAt l G S  ((x + 3) + k) (t) L_ (fun i_ => (e_t i_)) e_L_ (by omega) ht hc) (gdC tb_842 (gdC tb_844 (gdC tb_16 (gdC tb_48 (gdC tb_845 gdB))))) ⟨ok_X10_letterAt, ⟨Nat.le_of_ble_eq_true rfl, Nat.le_of_ble_eq_true rfl⟩, rfl, rfl⟩ (PreV.of (C := RX10) (T := TX10) (N := 41) I (atM_model) rfl) rfl hl.1 rfl (Nat.le_of_ble_eq_true rfl) dX10_readsName_79 ⟨Nat.zero_le _, Nat.zero_le _⟩) (fun r15 S16 H locs q17 I => ?_)
                  obtain ⟨e1_, e2_⟩ := q17
                  rw [e2_] at I
                  rw [e1_]
                  clear e1_ e2_
                  have t18 := ltx_r ht hc ((x + 3) + k)
                  refine ri_push X (v := 59) (by decide) dX10_readsName_82 ?_
                  refine rj_eq (tgt := 89) X (by omega) (by omega) dX10_readsName_84 (by decide) (fun c19 => ?_) (fun c19 => ?_)
                  · skip
                    have hbn : bNam (ltx t L_) x = (x + 4) + k := by unfold bNam; rw [← hk, if_pos (by omega)]
                    refine ri_const X (v := 0) dX10_readsName_89 ?_
                    refine lv_istore_n (lv' := [(3, .int (iI 0)), (0, .ref (G.2.2 0)), (1, .int (iI x)), (2, .int (iI k))]) X.1 X.2.1 dX10_readsName_90 rfl hl (by decide) rfl (fun ls hl => ?_)
                    have lp_91 : ∀ (fu_ : Nat) (i : Int) (U : Nat → Int → Int), (13 - i).toNat < fu_ → ∀ (hi : 0 ≤ i ∧ i ≤ k) (hU8 : ∀ y : Int, 0 ≤ y → y < i → U 8 (12 * (S.1 52 0) + y) = ltx t L_ ((x + 3) + y)) (hUf : ∀ (c_ : Nat) (y : Int), ¬ (c_ = 8 ∧ 12 * (S.1 52 0) ≤ y) → U c_ y = S.1 c_ y) (H : Heap) (locs : List Loc), In (KM G) s s.heap H locs (U, S.2) → ∀ ls : Array Slot, lv_has ls 4 [(0, .ref (G.2.2 0)), (1, .int (iI x)), (2, .int (iI k)), (3, .int (iI i))] → W p l e rm_X10_readsName s m args below meth c H locs 0 0 (MQ below (QI (KM G) (po_X10_readsName S x t L_)) args s 0 0 (KM G).2.2.2) (F0 m 91 ls []) := by
                      intro fu_
                      induction fu_ with
                      | zero => intro i U hm; exact absurd hm (by omega)
                      | succ fu_ ih_91 =>
                        intro i U hm_91 hi hU8 hUf H locs I ls hl
                        refine lv_iload_n X.1 X.2.1 dX10_readsName_91 rfl (lv_at hl 3 rfl) ?_
                        refine lv_iload_n X.1 X.2.1 dX10_readsName_92 rfl (lv_at hl 2 rfl) ?_
                        refine rj_ge (tgt := 125) X (by omega) (by omega) dX10_readsName_93 (by decide) (fun c20 => ?_) (fun c20 => ?_)
                        · skip
                          refine lv_aload_n X.1 X.2.1 dX10_readsName_125 rfl (lv_at hl 0 rfl) ?_
                          refine gM_model_readKinds X I tb_706 dX10_readsName_126 ?_
                          refine lv_aload_n X.1 X.2.1 dX10_readsName_129 rfl (lv_at hl 0 rfl) ?_
                          refine gM_model_readNames X I (v := (S.1 52 0)) (hUf 52 0 (by omega)) tb_703 dX10_readsName_130 ?_
                          refine lv_aload_n X.1 X.2.1 dX10_readsName_133 rfl (lv_at hl 0 rfl) ?_
                          refine lv_iload_n X.1 X.2.1 dX10_readsName_134 rfl (lv_at hl 1 rfl) ?_
                          refine ri_const X (v := 1) dX10_readsName_135 ?_
                          refine ri_add X (v := (x + 1)) rfl dX10_readsName_136 ?_
                          refine cl_i I (runV (As := [.int (iI (x + 1))]) (rest := [.int (iI (S.1 52 0)), .ref (G.2.2 10)]) X (k_X10_letterAt l G (U, S.2)  (x + 1) (t) L_ (fun i_ => ((hUf 1 i_ (by omega)).trans (e_t i_))) ((hUf 50 0 (by omega)).trans e_L_) (by omega) ht hc) (gdC tb_842 (gdC tb_844 (gdC tb_16 (gdC tb_48 (gdC tb_845 gdB))))) ⟨ok_X10_letterAt, ⟨Nat.le_of_ble_eq_true rfl, Nat.le_of_ble_eq_true rfl⟩, rfl, rfl⟩ (PreV.of (C := RX10) (T := TX10) (N := 41) I (atM_model) rfl) rfl hl.1 rfl (Nat.le_of_ble_eq_true rfl) dX10_readsName_137 ⟨Nat.zero_le _, Nat.zero_le _⟩) (fun r21 S22 H locs q23 I => ?_)
                          obtain ⟨e1_, e2_⟩ := q23
                          rw [e2_] at I
                          rw [e1_]
                          clear e1_ e2_
                          have t24 := ltx_r ht hc (x + 1)
                          refine ri_push X (v := 48) (by decide) dX10_readsName_140 ?_
                          refine ri_sub X (v := ((ltx t L_ (x + 1)) - 48)) rfl dX10_readsName_142 ?_
                          refine qM_readKinds X I (by omega) dX10_readsName_143 (fun H locs I => ?_)
                          have I : In (KM G) s s.heap H locs ((ua U 10 (S.1 52 0) ((ltx t L_ (x + 1)) - 48)), S.2) := I
                          refine lv_aload_n X.1 X.2.1 dX10_readsName_144 rfl (lv_at hl 0 rfl) ?_
                          refine gM_model_readSizes X I tb_705 dX10_readsName_145 ?_
                          refine lv_aload_n X.1 X.2.1 dX10_readsName_148 rfl (lv_at hl 0 rfl) ?_
                          refine gM_model_readNames X I (v := (S.1 52 0)) (by show (ua U 10 (S.1 52 0) ((ltx t L_ (x + 1)) - 48)) 52 0 = _; rw [ua_nc (by decide)]; exact (hUf 52 0 (by omega))) tb_703 dX10_readsName_149 ?_
                          refine lv_iload_n X.1 X.2.1 dX10_readsName_152 rfl (lv_at hl 2 rfl) ?_
                          refine qM_readSizes X I (by omega) dX10_readsName_153 (fun H locs I => ?_)
                          have I : In (KM G) s s.heap H locs ((ua (ua U 10 (S.1 52 0) ((ltx t L_ (x + 1)) - 48)) 9 (S.1 52 0) k), S.2) := I
                          refine lv_aload_n X.1 X.2.1 dX10_readsName_154 rfl (lv_at hl 0 rfl) ?_
                          refine lv_dup X.1 X.2.1 dX10_readsName_155 rfl ?_
                          refine gM_model_readNames X I (v := (S.1 52 0)) (by show (ua (ua U 10 (S.1 52 0) ((ltx t L_ (x + 1)) - 48)) 9 (S.1 52 0) k) 52 0 = _; rw [ua_nc (by decide), ua_nc (by decide)]; exact (hUf 52 0 (by omega))) tb_703 dX10_readsName_156 ?_
                          refine ri_const X (v := 1) dX10_readsName_159 ?_
                          refine ri_add X (v := ((S.1 52 0) + 1)) rfl dX10_readsName_160 ?_
                          refine pM_model_readNames X I tb_703 dX10_readsName_161 (fun H locs I => ?_)
                          have I : In (KM G) s s.heap H locs ((us (ua (ua U 10 (S.1 52 0) ((ltx t L_ (x + 1)) - 48)) 9 (S.1 52 0) k) 52 ((S.1 52 0) + 1)), S.2) := I
                          refine lv_iload_n X.1 X.2.1 dX10_readsName_164 rfl (lv_at hl 1 rfl) ?_
                          refine ri_const X (v := 4) dX10_readsName_165 ?_
                          refine ri_add X (v := (x + 4)) rfl dX10_readsName_166 ?_
                          refine lv_iload_n X.1 X.2.1 dX10_readsName_167 rfl (lv_at hl 2 rfl) ?_
                          refine ri_add X (v := ((x + 4) + k)) rfl dX10_readsName_168 ?_
                          exact rt_i X hr hlk I rfl (by exact Or.inr ⟨by omega, by omega, by omega, rfl, rdN_of (by omega) hk hU8 hUf⟩) dX10_readsName_169
                        · skip
                          refine lv_aload_n X.1 X.2.1 dX10_readsName_96 rfl (lv_at hl 0 rfl) ?_
                          refine gM_model_readSigns X I tb_704 dX10_readsName_97 ?_
                          refine ri_push X (v := 12) (by decide) dX10_readsName_100 ?_
                          refine lv_aload_n X.1 X.2.1 dX10_readsName_102 rfl (lv_at hl 0 rfl) ?_
                          refine gM_model_readNames X I (v := (S.1 52 0)) (hUf 52 0 (by omega)) tb_703 dX10_readsName_103 ?_
                          refine ri_mul X (v := (12 * (S.1 52 0))) rfl dX10_readsName_106 ?_
                          refine lv_iload_n X.1 X.2.1 dX10_readsName_107 rfl (lv_at hl 3 rfl) ?_
                          refine ri_add X (v := ((12 * (S.1 52 0)) + i)) rfl dX10_readsName_108 ?_
                          refine lv_aload_n X.1 X.2.1 dX10_readsName_109 rfl (lv_at hl 0 rfl) ?_
                          refine lv_iload_n X.1 X.2.1 dX10_readsName_110 rfl (lv_at hl 1 rfl) ?_
                          refine ri_const X (v := 3) dX10_readsName_111 ?_
                          refine ri_add X (v := (x + 3)) rfl dX10_readsName_112 ?_
                          refine lv_iload_n X.1 X.2.1 dX10_readsName_113 rfl (lv_at hl 3 rfl) ?_
                          refine ri_add X (v := ((x + 3) + i)) rfl dX10_readsName_114 ?_
                          refine cl_i I (runV (As := [.int (iI ((x + 3) + i))]) (rest := [.int (iI ((12 * (S.1 52 0)) + i)), .ref (G.2.2 8)]) X (k_X10_letterAt l G (U, S.2)  ((x + 3) + i) (t) L_ (fun i_ => ((hUf 1 i_ (by omega)).trans (e_t i_))) ((hUf 50 0 (by omega)).trans e_L_) (by omega) ht hc) (gdC tb_842 (gdC tb_844 (gdC tb_16 (gdC tb_48 (gdC tb_845 gdB))))) ⟨ok_X10_letterAt, ⟨Nat.le_of_ble_eq_true rfl, Nat.le_of_ble_eq_true rfl⟩, rfl, rfl⟩ (PreV.of (C := RX10) (T := TX10) (N := 41) I (atM_model) rfl) rfl hl.1 rfl (Nat.le_of_ble_eq_true rfl) dX10_readsName_115 ⟨Nat.zero_le _, Nat.zero_le _⟩) (fun r25 S26 H locs q27 I => ?_)
                          obtain ⟨e1_, e2_⟩ := q27
                          rw [e2_] at I
                          rw [e1_]
                          clear e1_ e2_
                          have t28 := ltx_r ht hc ((x + 3) + i)
                          refine qM_readSigns X I (by omega) dX10_readsName_118 (fun H locs I => ?_)
                          have I : In (KM G) s s.heap H locs ((ua U 8 ((12 * (S.1 52 0)) + i) (ltx t L_ ((x + 3) + i))), S.2) := I
                          refine ri_iinc X (k := 3) (v := (i + 1)) (lv' := [(3, .int (iI (i + 1))), (0, .ref (G.2.2 0)), (1, .int (iI x)), (2, .int (iI k))]) rfl dX10_readsName_119 hl rfl (by decide) rfl (fun ls hl => ?_)
                          refine lv_goto (tgt := 91) X.1 X.2.1 dX10_readsName_122 (by decide) ?_
                          exact ih_91 (i + 1) (ua U 8 ((12 * (S.1 52 0)) + i) (ltx t L_ ((x + 3) + i))) (by omega) (by omega) (fun y h1 h2 => by
      rw [ua_at]
      by_cases q : y = i
      · rw [if_pos ⟨rfl, by omega⟩, q]
      · rw [if_neg (by omega)]; exact hU8 y h1 (by omega)) (fun c_ y h => by rw [ua_at, if_neg (by omega)]; exact hUf c_ y h) _ _ I ls (lv_sub hl [1, 2, 3, 0] rfl)
                    exact lp_91 (14) 0 S.1 (by omega) (by omega) (fun y h1 h2 => absurd h2 (by omega)) (fun c_ y _ => rfl) _ _ I ls (lv_sub hl [1, 2, 3, 0] rfl)
                  · skip
                    refine ri_const X (v := (-1)) dX10_readsName_87 ?_
                    exact rt_i X hr hlk I rfl (by exact Or.inl ⟨Or.inr (by unfold bNam; rw [← hk, if_neg (by omega)]), rfl, rfl⟩) dX10_readsName_88
            · skip
              refine lv_aload_n X.1 X.2.1 dX10_readsName_42 rfl (lv_at hl 0 rfl) ?_
              refine lv_iload_n X.1 X.2.1 dX10_readsName_43 rfl (lv_at hl 1 rfl) ?_
              refine ri_const X (v := 3) dX10_readsName_44 ?_
              refine ri_add X (v := (x + 3)) rfl dX10_readsName_45 ?_
              refine lv_iload_n X.1 X.2.1 dX10_readsName_46 rfl (lv_at hl 2 rfl) ?_
              refine ri_add X (v := ((x + 3) + k)) rfl dX10_readsName_47 ?_
              refine cl_i I (runV (As := [.int (iI ((x + 3) + k))]) (rest := []) X (k_X10_letterAt l G S  ((x + 3) + k) (t) L_ (fun i_ => (e_t i_)) e_L_ (by omega) ht hc) (gdC tb_842 (gdC tb_844 (gdC tb_16 (gdC tb_48 (gdC tb_845 gdB))))) ⟨ok_X10_letterAt, ⟨Nat.le_of_ble_eq_true rfl, Nat.le_of_ble_eq_true rfl⟩, rfl, rfl⟩ (PreV.of (C := RX10) (T := TX10) (N := 41) I (atM_model) rfl) rfl hl.1 rfl (Nat.le_of_ble_eq_true rfl) dX10_readsName_48 ⟨Nat.zero_le _, Nat.zero_le _⟩) (fun r29 S30 H locs q31 I => ?_)
              obtain ⟨e1_, e2_⟩ := q31
              rw [e2_] at I
              rw [e1_]
              clear e1_ e2_
              have t32 := ltx_r ht hc ((x + 3) + k)
              refine cl_i I (runS (As := [.int (iI (ltx t L_ ((x + 3) + k)))]) (rest := []) X (k_X10_isSign l G S  (ltx t L_ ((x + 3) + k))  (by omega)) (gdC tb_848 gdB) tb_846 tb_847 tb_48 ⟨ok_X10_isSign, ⟨Nat.le_of_ble_eq_true rfl, Nat.le_of_ble_eq_true rfl⟩, rfl, rfl⟩ (PreS.of I) rfl hl.1 rfl (Nat.le_of_ble_eq_true rfl) dX10_readsName_51 ⟨Nat.zero_le _, Nat.zero_le _⟩) (fun r33 S34 H locs q35 I => ?_)
              obtain ⟨e1_, e2_⟩ := q35
              rw [e2_] at I
              rw [e1_]
              clear e1_ e2_
              rcases Decidable.em (((97 ≤ ((ltx t L_ ((x + 3) + k))) ∧ ((ltx t L_ ((x + 3) + k))) ≤ 122) ∨ (65 ≤ ((ltx t L_ ((x + 3) + k))) ∧ ((ltx t L_ ((x + 3) + k))) ≤ 90) ∨ ((ltx t L_ ((x + 3) + k))) = 95)) with b36 | b36
              · rw [bI_t b36]
                refine rz_eq (tgt := 63) X (by omega) dX10_readsName_54 (by decide) (fun c37 => absurd c37 (by decide)) (fun _ => ?_)
                refine ri_iinc X (k := 2) (v := (k + 1)) (lv' := [(2, .int (iI (k + 1))), (0, .ref (G.2.2 0)), (1, .int (iI x))]) rfl dX10_readsName_57 hl rfl (by decide) rfl (fun ls hl => ?_)
                refine lv_goto (tgt := 36) X.1 X.2.1 dX10_readsName_60 (by decide) ?_
                exact ih_36 (k + 1) (by omega) (by omega) (by have e := sgc_yes (f := (ltx t L_)) (p := x + 3 + k) (n := (13 - k).toNat) (by omega) (by omega); rw [e, show (13 - k).toNat - 1 = (13 - (k + 1)).toNat by omega, show x + 3 + k + 1 = x + 3 + (k + 1) by omega] at hk1; omega) _ _ I ls (lv_sub hl [1, 2, 0] rfl)
              · rw [bI_f b36]
                refine rz_eq (tgt := 63) X (by omega) dX10_readsName_54 (by decide) (fun _ => ?_) (fun c38 => absurd c38 (fun q => q (by decide)))
                have hk : k = sgc (ltx t L_) (x + 3) 13 := by
                  rw [← hk1]
                  first | (rw [show (13 - k).toNat = 0 by omega, sgc]; omega) | (rw [sgc_no _ (by omega)]; omega)
                refine lv_iload_n X.1 X.2.1 dX10_readsName_63 rfl (lv_at hl 2 rfl) ?_
                refine rz_eq (tgt := 87) X (by omega) dX10_readsName_64 (by decide) (fun c39 => ?_) (fun c39 => ?_)
                · skip
                  refine ri_const X (v := (-1)) dX10_readsName_87 ?_
                  exact rt_i X hr hlk I rfl (by exact Or.inl ⟨Or.inr (by unfold bNam; rw [← hk, if_neg (by omega)]), rfl, rfl⟩) dX10_readsName_88
                · skip
                  refine lv_iload_n X.1 X.2.1 dX10_readsName_67 rfl (lv_at hl 2 rfl) ?_
                  refine ri_push X (v := 13) (by decide) dX10_readsName_68 ?_
                  refine rj_eq (tgt := 87) X (by omega) (by omega) dX10_readsName_70 (by decide) (fun c40 => ?_) (fun c40 => ?_)
                  · skip
                    refine ri_const X (v := (-1)) dX10_readsName_87 ?_
                    exact rt_i X hr hlk I rfl (by exact Or.inl ⟨Or.inr (by unfold bNam; rw [← hk, if_neg (by omega)]), rfl, rfl⟩) dX10_readsName_88
                  · skip
                    refine lv_aload_n X.1 X.2.1 dX10_readsName_73 rfl (lv_at hl 0 rfl) ?_
                    refine lv_iload_n X.1 X.2.1 dX10_readsName_74 rfl (lv_at hl 1 rfl) ?_
                    refine ri_const X (v := 3) dX10_readsName_75 ?_
                    refine ri_add X (v := (x + 3)) rfl dX10_readsName_76 ?_
                    refine lv_iload_n X.1 X.2.1 dX10_readsName_77 rfl (lv_at hl 2 rfl) ?_
                    refine ri_add X (v := ((x + 3) + k)) rfl dX10_readsName_78 ?_
                    refine cl_i I (runV (As := [.int (iI ((x + 3) + k))]) (rest := []) X (k_X10_letterAt l G S  ((x + 3) + k) (t) L_ (fun i_ => (e_t i_)) e_L_ (by omega) ht hc) (gdC tb_842 (gdC tb_844 (gdC tb_16 (gdC tb_48 (gdC tb_845 gdB))))) ⟨ok_X10_letterAt, ⟨Nat.le_of_ble_eq_true rfl, Nat.le_of_ble_eq_true rfl⟩, rfl, rfl⟩ (PreV.of (C := RX10) (T := TX10) (N := 41) I (atM_model) rfl) rfl hl.1 rfl (Nat.le_of_ble_eq_true rfl) dX10_readsName_79 ⟨Nat.zero_le _, Nat.zero_le _⟩) (fun r41 S42 H locs q43 I => ?_)
                    obtain ⟨e1_, e2_⟩ := q43
                    rw [e2_] at I
                    rw [e1_]
                    clear e1_ e2_
                    have t44 := ltx_r ht hc ((x + 3) + k)
                    refine ri_push X (v := 59) (by decide) dX10_readsName_82 ?_
                    refine rj_eq (tgt := 89) X (by omega) (by omega) dX10_readsName_84 (by decide) (fun c45 => ?_) (fun c45 => ?_)
                    · skip
                      have hbn : bNam (ltx t L_) x = (x + 4) + k := by unfold bNam; rw [← hk, if_pos (by omega)]
                      refine ri_const X (v := 0) dX10_readsName_89 ?_
                      refine lv_istore_n (lv' := [(3, .int (iI 0)), (0, .ref (G.2.2 0)), (1, .int (iI x)), (2, .int (iI k))]) X.1 X.2.1 dX10_readsName_90 rfl hl (by decide) rfl (fun ls hl => ?_)
                      have lp_91 : ∀ (fu_ : Nat) (i : Int) (U : Nat → Int → Int), (13 - i).toNat < fu_ → ∀ (hi : 0 ≤ i ∧ i ≤ k) (hU8 : ∀ y : Int, 0 ≤ y → y < i → U 8 (12 * (S.1 52 0) + y) = ltx t L_ ((x + 3) + y)) (hUf : ∀ (c_ : Nat) (y : Int), ¬ (c_ = 8 ∧ 12 * (S.1 52 0) ≤ y) → U c_ y = S.1 c_ y) (H : Heap) (locs : List Loc), In (KM G) s s.heap H locs (U, S.2) → ∀ ls : Array Slot, lv_has ls 4 [(0, .ref (G.2.2 0)), (1, .int (iI x)), (2, .int (iI k)), (3, .int (iI i))] → W p l e rm_X10_readsName s m args below meth c H locs 0 0 (MQ below (QI (KM G) (po_X10_readsName S x t L_)) args s 0 0 (KM G).2.2.2) (F0 m 91 ls []) := by
                        intro fu_
                        induction fu_ with
                        | zero => intro i U hm; exact absurd hm (by omega)
                        | succ fu_ ih_91 =>
                          intro i U hm_91 hi hU8 hUf H locs I ls hl
                          refine lv_iload_n X.1 X.2.1 dX10_readsName_91 rfl (lv_at hl 3 rfl) ?_
                          refine lv_iload_n X.1 X.2.1 dX10_readsName_92 rfl (lv_at hl 2 rfl) ?_
                          refine rj_ge (tgt := 125) X (by omega) (by omega) dX10_readsName_93 (by decide) (fun c46 => ?_) (fun c46 => ?_)
                          · skip
                            refine lv_aload_n X.1 X.2.1 dX10_readsName_125 rfl (lv_at hl 0 rfl) ?_
                            refine gM_model_readKinds X I tb_706 dX10_readsName_126 ?_
                            refine lv_aload_n X.1 X.2.1 dX10_readsName_129 rfl (lv_at hl 0 rfl) ?_
                            refine gM_model_readNames X I (v := (S.1 52 0)) (hUf 52 0 (by omega)) tb_703 dX10_readsName_130 ?_
                            refine lv_aload_n X.1 X.2.1 dX10_readsName_133 rfl (lv_at hl 0 rfl) ?_
                            refine lv_iload_n X.1 X.2.1 dX10_readsName_134 rfl (lv_at hl 1 rfl) ?_
                            refine ri_const X (v := 1) dX10_readsName_135 ?_
                            refine ri_add X (v := (x + 1)) rfl dX10_readsName_136 ?_
                            refine cl_i I (runV (As := [.int (iI (x + 1))]) (rest := [.int (iI (S.1 52 0)), .ref (G.2.2 10)]) X (k_X10_letterAt l G (U, S.2)  (x + 1) (t) L_ (fun i_ => ((hUf 1 i_ (by omega)).trans (e_t i_))) ((hUf 50 0 (by omega)).trans e_L_) (by omega) ht hc) (gdC tb_842 (gdC tb_844 (gdC tb_16 (gdC tb_48 (gdC tb_845 gdB))))) ⟨ok_X10_letterAt, ⟨Nat.le_of_ble_eq_true rfl, Nat.le_of_ble_eq_true rfl⟩, rfl, rfl⟩ (PreV.of (C := RX10) (T := TX10) (N := 41) I (atM_model) rfl) rfl hl.1 rfl (Nat.le_of_ble_eq_true rfl) dX10_readsName_137 ⟨Nat.zero_le _, Nat.zero_le _⟩) (fun r47 S48 H locs q49 I => ?_)
                            obtain ⟨e1_, e2_⟩ := q49
                            rw [e2_] at I
                            rw [e1_]
                            clear e1_ e2_
                            have t50 := ltx_r ht hc (x + 1)
                            refine ri_push X (v := 48) (by decide) dX10_readsName_140 ?_
                            refine ri_sub X (v := ((ltx t L_ (x + 1)) - 48)) rfl dX10_readsName_142 ?_
                            refine qM_readKinds X I (by omega) dX10_readsName_143 (fun H locs I => ?_)
                            have I : In (KM G) s s.heap H locs ((ua U 10 (S.1 52 0) ((ltx t L_ (x + 1)) - 48)), S.2) := I
                            refine lv_aload_n X.1 X.2.1 dX10_readsName_144 rfl (lv_at hl 0 rfl) ?_
                            refine gM_model_readSizes X I tb_705 dX10_readsName_145 ?_
                            refine lv_aload_n X.1 X.2.1 dX10_readsName_148 rfl (lv_at hl 0 rfl) ?_
                            refine gM_model_readNames X I (v := (S.1 52 0)) (by show (ua U 10 (S.1 52 0) ((ltx t L_ (x + 1)) - 48)) 52 0 = _; rw [ua_nc (by decide)]; exact (hUf 52 0 (by omega))) tb_703 dX10_readsName_149 ?_
                            refine lv_iload_n X.1 X.2.1 dX10_readsName_152 rfl (lv_at hl 2 rfl) ?_
                            refine qM_readSizes X I (by omega) dX10_readsName_153 (fun H locs I => ?_)
                            have I : In (KM G) s s.heap H locs ((ua (ua U 10 (S.1 52 0) ((ltx t L_ (x + 1)) - 48)) 9 (S.1 52 0) k), S.2) := I
                            refine lv_aload_n X.1 X.2.1 dX10_readsName_154 rfl (lv_at hl 0 rfl) ?_
                            refine lv_dup X.1 X.2.1 dX10_readsName_155 rfl ?_
                            refine gM_model_readNames X I (v := (S.1 52 0)) (by show (ua (ua U 10 (S.1 52 0) ((ltx t L_ (x + 1)) - 48)) 9 (S.1 52 0) k) 52 0 = _; rw [ua_nc (by decide), ua_nc (by decide)]; exact (hUf 52 0 (by omega))) tb_703 dX10_readsName_156 ?_
                            refine ri_const X (v := 1) dX10_readsName_159 ?_
                            refine ri_add X (v := ((S.1 52 0) + 1)) rfl dX10_readsName_160 ?_
                            refine pM_model_readNames X I tb_703 dX10_readsName_161 (fun H locs I => ?_)
                            have I : In (KM G) s s.heap H locs ((us (ua (ua U 10 (S.1 52 0) ((ltx t L_ (x + 1)) - 48)) 9 (S.1 52 0) k) 52 ((S.1 52 0) + 1)), S.2) := I
                            refine lv_iload_n X.1 X.2.1 dX10_readsName_164 rfl (lv_at hl 1 rfl) ?_
                            refine ri_const X (v := 4) dX10_readsName_165 ?_
                            refine ri_add X (v := (x + 4)) rfl dX10_readsName_166 ?_
                            refine lv_iload_n X.1 X.2.1 dX10_readsName_167 rfl (lv_at hl 2 rfl) ?_
                            refine ri_add X (v := ((x + 4) + k)) rfl dX10_readsName_168 ?_
                            exact rt_i X hr hlk I rfl (by exact Or.inr ⟨by omega, by omega, by omega, rfl, rdN_of (by omega) hk hU8 hUf⟩) dX10_readsName_169
                          · skip
                            refine lv_aload_n X.1 X.2.1 dX10_readsName_96 rfl (lv_at hl 0 rfl) ?_
                            refine gM_model_readSigns X I tb_704 dX10_readsName_97 ?_
                            refine ri_push X (v := 12) (by decide) dX10_readsName_100 ?_
                            refine lv_aload_n X.1 X.2.1 dX10_readsName_102 rfl (lv_at hl 0 rfl) ?_
                            refine gM_model_readNames X I (v := (S.1 52 0)) (hUf 52 0 (by omega)) tb_703 dX10_readsName_103 ?_
                            refine ri_mul X (v := (12 * (S.1 52 0))) rfl dX10_readsName_106 ?_
                            refine lv_iload_n X.1 X.2.1 dX10_readsName_107 rfl (lv_at hl 3 rfl) ?_
                            refine ri_add X (v := ((12 * (S.1 52 0)) + i)) rfl dX10_readsName_108 ?_
                            refine lv_aload_n X.1 X.2.1 dX10_readsName_109 rfl (lv_at hl 0 rfl) ?_
                            refine lv_iload_n X.1 X.2.1 dX10_readsName_110 rfl (lv_at hl 1 rfl) ?_
                            refine ri_const X (v := 3) dX10_readsName_111 ?_
                            refine ri_add X (v := (x + 3)) rfl dX10_readsName_112 ?_
                            refine lv_iload_n X.1 X.2.1 dX10_readsName_113 rfl (lv_at hl 3 rfl) ?_
                            refine ri_add X (v := ((x + 3) + i)) rfl dX10_readsName_114 ?_
                            refine cl_i I (runV (As := [.int (iI ((x + 3) + i))]) (rest := [.int (iI ((12 * (S.1 52 0)) + i)), .ref (G.2.2 8)]) X (k_X10_letterAt l G (U, S.2)  ((x + 3) + i) (t) L_ (fun i_ => ((hUf 1 i_ (by omega)).trans (e_t i_))) ((hUf 50 0 (by omega)).trans e_L_) (by omega) ht hc) (gdC tb_842 (gdC tb_844 (gdC tb_16 (gdC tb_48 (gdC tb_845 gdB))))) ⟨ok_X10_letterAt, ⟨Nat.le_of_ble_eq_true rfl, Nat.le_of_ble_eq_true rfl⟩, rfl, rfl⟩ (PreV.of (C := RX10) (T := TX10) (N := 41) I (atM_model) rfl) rfl hl.1 rfl (Nat.le_of_ble_eq_true rfl) dX10_readsName_115 ⟨Nat.zero_le _, Nat.zero_le _⟩) (fun r51 S52 H locs q53 I => ?_)
                            obtain ⟨e1_, e2_⟩ := q53
                            rw [e2_] at I
                            rw [e1_]
                            clear e1_ e2_
                            have t54 := ltx_r ht hc ((x + 3) + i)
                            refine qM_readSigns X I (by omega) dX10_readsName_118 (fun H locs I => ?_)
                            have I : In (KM G) s s.heap H locs ((ua U 8 ((12 * (S.1 52 0)) + i) (ltx t L_ ((x + 3) + i))), S.2) := I
                            refine ri_iinc X (k := 3) (v := (i + 1)) (lv' := [(3, .int (iI (i + 1))), (0, .ref (G.2.2 0)), (1, .int (iI x)), (2, .int (iI k))]) rfl dX10_readsName_119 hl rfl (by decide) rfl (fun ls hl => ?_)
                            refine lv_goto (tgt := 91) X.1 X.2.1 dX10_readsName_122 (by decide) ?_
                            exact ih_91 (i + 1) (ua U 8 ((12 * (S.1 52 0)) + i) (ltx t L_ ((x + 3) + i))) (by omega) (by omega) (fun y h1 h2 => by
      rw [ua_at]
      by_cases q : y = i
      · rw [if_pos ⟨rfl, by omega⟩, q]
      · rw [if_neg (by omega)]; exact hU8 y h1 (by omega)) (fun c_ y h => by rw [ua_at, if_neg (by omega)]; exact hUf c_ y h) _ _ I ls (lv_sub hl [1, 2, 3, 0] rfl)
                      exact lp_91 (14) 0 S.1 (by omega) (by omega) (fun y h1 h2 => absurd h2 (by omega)) (fun c_ y _ => rfl) _ _ I ls (lv_sub hl [1, 2, 3, 0] rfl)
                    · skip
                      refine ri_const X (v := (-1)) dX10_readsName_87 ?_
                      exact rt_i X hr hlk I rfl (by exact Or.inl ⟨Or.inr (by unfold bNam; rw [← hk, if_neg (by omega)]), rfl, rfl⟩) dX10_readsName_88
        exact lp_36 (14) 0 (by omega) (by omega) (by simp) _ _ I ls (lv_sub hl [1, 2, 0] rfl)
      · skip
        refine ri_const X (v := (-1)) dX10_readsName_32 ?_
        exact rt_i X hr hlk I rfl (by first | exact Or.inl ⟨Or.inl (by omega), rfl, rfl⟩ | exact Or.inl ⟨Or.inr (by unfold bNam; rw [if_neg (by omega)]), rfl, rfl⟩) dX10_readsName_33
    · rw [bI_f b5]
      refine rz_eq (tgt := 32) X (by omega) dX10_readsName_17 (by decide) (fun _ => ?_) (fun c55 => absurd c55 (fun q => q (by decide)))
      refine ri_const X (v := (-1)) dX10_readsName_32 ?_
      exact rt_i X hr hlk I rfl (by first | exact Or.inl ⟨Or.inl (by omega), rfl, rfl⟩ | exact Or.inl ⟨Or.inr (by unfold bNam; rw [if_neg (by omega)]), rfl, rfl⟩) dX10_readsName_33

theorem ok_X10_readsWorths : yX10_readsWorths.cls ≠ "java/lang/invoke/MethodHandle" ∧ yX10_readsWorths.cls ≠ "java/lang/invoke/VarHandle" ∧ (parseMethodDescriptor yX10_readsWorths.desc).map (fun d => d.parameters.length) = some 1 := ⟨by decide +kernel, by decide +kernel, by decide +kernel⟩
abbrev po_X10_readsWorths (S : St)  (x : Int) (t : Int → Int) (L_ : Int) : Int → St → Prop := fun r S1 => (bWor (ltx t L_) x = -1 ∧ r = -1 ∧ S1 = S) ∨ (¬ bWor (ltx t L_) x = -1 ∧ r = x + 7 ∧ S1 = ((ua (ua (ua S.1 11 0 (ltx t L_ (x + 1) - 48)) 11 1 (ltx t L_ (x + 3) - 48)) 11 2 (ltx t L_ (x + 5) - 48)), S.2))
abbrev rm_X10_readsWorths : Room := ({ frames := 2, cells := 0, slots := 0, locals := 43 } : Room)
set_option maxRecDepth 100000 in
set_option maxHeartbeats 4000000 in
theorem k_X10_readsWorths (l : Launch) (G : Ge) (S : St)  (x : Int) (t : Int → Int) (L_ : Int) (e_t : ∀ i : Int, S.1 1 i = t i) (e_L_ : S.1 50 0 = L_) (hx : 0 ≤ x ∧ x ≤ 200) (ht : 0 ≤ L_ ∧ L_ ≤ 200) (hc : ∀ i : Int, 0 ≤ i → i < L_ → 32 ≤ t i ∧ t i ≤ 126) : Ki (KM G) l yX10_readsWorths cX10_readsWorths 3 .int rm_X10_readsWorths [.ref (G.2.2 0), .int (iI x)] S (po_X10_readsWorths S x t L_) := by
  refine K_start (own := "NameSeekerModel") (by decide +kernel) rfl (Nat.le_of_ble_eq_true rfl) ?_
  intro p e s m args below meth c X hr hlk I ls hl
  have hl : lv_has ls 3 [(0, .ref (G.2.2 0)), (1, .int (iI x))] := hl
  refine ri_const X (v := 0) dX10_readsWorths_0 ?_
  refine lv_istore_n (lv' := [(2, .int (iI 0)), (0, .ref (G.2.2 0)), (1, .int (iI x))]) X.1 X.2.1 dX10_readsWorths_1 rfl hl (by decide) rfl (fun ls hl => ?_)
  refine lv_iload_n X.1 X.2.1 dX10_readsWorths_2 rfl (lv_at hl 0 rfl) ?_
  refine ri_const X (v := 3) dX10_readsWorths_3 ?_
  refine rj_ge (tgt := 57) X (by omega) (by omega) dX10_readsWorths_4 (by decide) (fun c1 => absurd c1 (by decide)) (fun _ => ?_)
  refine lv_aload_n X.1 X.2.1 dX10_readsWorths_7 rfl (lv_at hl 1 rfl) ?_
  refine lv_iload_n X.1 X.2.1 dX10_readsWorths_8 rfl (lv_at hl 2 rfl) ?_
  refine ri_const X (v := 1) dX10_readsWorths_9 ?_
  refine ri_add X (v := (x + 1)) rfl dX10_readsWorths_10 ?_
  refine ri_const X (v := 2) dX10_readsWorths_11 ?_
  refine lv_iload_n X.1 X.2.1 dX10_readsWorths_12 rfl (lv_at hl 0 rfl) ?_
  refine ri_mul X (v := 0) (by decide) dX10_readsWorths_13 ?_
  refine ri_add X (v := (x + 1)) (by omega) dX10_readsWorths_14 ?_
  refine ri_push X (v := 9) (by decide) dX10_readsWorths_15 ?_
  refine cl_i I (runV (As := [.int (iI (x + 1)), .int (iI 9)]) (rest := []) X (k_X10_isFigure l G S  (x + 1) 9 (t) L_ (fun i_ => (e_t i_)) e_L_ (by omega) (by omega) ht hc) (gdC tb_838 (gdC tb_840 (gdC tb_15 (gdC tb_48 (gdC tb_841 gdB))))) ⟨ok_X10_isFigure, ⟨Nat.le_of_ble_eq_true rfl, Nat.le_of_ble_eq_true rfl⟩, rfl, rfl⟩ (PreV.of (C := RX10) (T := TX10) (N := 41) I (atM_model) rfl) rfl hl.1 rfl (Nat.le_of_ble_eq_true rfl) dX10_readsWorths_17 ⟨Nat.zero_le _, Nat.zero_le _⟩) (fun r2 S3 H locs q4 I => ?_)
  obtain ⟨e1_, e2_⟩ := q4
  rw [e2_] at I
  rw [e1_]
  clear e1_ e2_
  rcases Decidable.em ((48 ≤ ltx t L_ (x + 1) ∧ ltx t L_ (x + 1) ≤ 48 + 9)) with b5 | b5
  · rw [bI_t b5]
    refine rz_eq (tgt := 49) X (by omega) dX10_readsWorths_20 (by decide) (fun c6 => absurd c6 (by decide)) (fun _ => ?_)
    refine lv_aload_n X.1 X.2.1 dX10_readsWorths_23 rfl (lv_at hl 1 rfl) ?_
    refine lv_iload_n X.1 X.2.1 dX10_readsWorths_24 rfl (lv_at hl 2 rfl) ?_
    refine ri_const X (v := 2) dX10_readsWorths_25 ?_
    refine ri_add X (v := (x + 2)) rfl dX10_readsWorths_26 ?_
    refine ri_const X (v := 2) dX10_readsWorths_27 ?_
    refine lv_iload_n X.1 X.2.1 dX10_readsWorths_28 rfl (lv_at hl 0 rfl) ?_
    refine ri_mul X (v := 0) (by decide) dX10_readsWorths_29 ?_
    refine ri_add X (v := (x + 2)) (by omega) dX10_readsWorths_30 ?_
    refine cl_i I (runV (As := [.int (iI (x + 2))]) (rest := []) X (k_X10_letterAt l G S  (x + 2) (t) L_ (fun i_ => (e_t i_)) e_L_ (by omega) ht hc) (gdC tb_842 (gdC tb_844 (gdC tb_16 (gdC tb_48 (gdC tb_845 gdB))))) ⟨ok_X10_letterAt, ⟨Nat.le_of_ble_eq_true rfl, Nat.le_of_ble_eq_true rfl⟩, rfl, rfl⟩ (PreV.of (C := RX10) (T := TX10) (N := 41) I (atM_model) rfl) rfl hl.1 rfl (Nat.le_of_ble_eq_true rfl) dX10_readsWorths_31 ⟨Nat.zero_le _, Nat.zero_le _⟩) (fun r7 S8 H locs q9 I => ?_)
    obtain ⟨e1_, e2_⟩ := q9
    rw [e2_] at I
    rw [e1_]
    clear e1_ e2_
    have t10 := ltx_r ht hc (x + 2)
    refine lv_iload_n X.1 X.2.1 dX10_readsWorths_34 rfl (lv_at hl 0 rfl) ?_
    refine ri_const X (v := 2) dX10_readsWorths_35 ?_
    refine rj_ge (tgt := 44) X (by omega) (by omega) dX10_readsWorths_36 (by decide) (fun c11 => absurd c11 (by decide)) (fun _ => ?_)
    refine ri_push X (v := 44) (by decide) dX10_readsWorths_39 ?_
    refine lv_goto (tgt := 46) X.1 X.2.1 dX10_readsWorths_41 (by decide) ?_
    refine rj_eq (tgt := 51) X (by omega) (by omega) dX10_readsWorths_46 (by decide) (fun c12 => ?_) (fun c12 => ?_)
    · skip
      refine ri_iinc X (k := 0) (v := 1) (lv' := [(2, .int (iI 1)), (0, .ref (G.2.2 0)), (1, .int (iI x))]) (by decide) dX10_readsWorths_51 hl rfl (by decide) rfl (fun ls hl => ?_)
      refine lv_goto (tgt := 2) X.1 X.2.1 dX10_readsWorths_54 (by decide) ?_
      refine lv_iload_n X.1 X.2.1 dX10_readsWorths_2 rfl (lv_at hl 0 rfl) ?_
      refine ri_const X (v := 3) dX10_readsWorths_3 ?_
      refine rj_ge (tgt := 57) X (by omega) (by omega) dX10_readsWorths_4 (by decide) (fun c13 => absurd c13 (by decide)) (fun _ => ?_)
      refine lv_aload_n X.1 X.2.1 dX10_readsWorths_7 rfl (lv_at hl 1 rfl) ?_
      refine lv_iload_n X.1 X.2.1 dX10_readsWorths_8 rfl (lv_at hl 2 rfl) ?_
      refine ri_const X (v := 1) dX10_readsWorths_9 ?_
      refine ri_add X (v := (x + 1)) rfl dX10_readsWorths_10 ?_
      refine ri_const X (v := 2) dX10_readsWorths_11 ?_
      refine lv_iload_n X.1 X.2.1 dX10_readsWorths_12 rfl (lv_at hl 0 rfl) ?_
      refine ri_mul X (v := 2) (by decide) dX10_readsWorths_13 ?_
      refine ri_add X (v := (x + 3)) (by omega) dX10_readsWorths_14 ?_
      refine ri_push X (v := 9) (by decide) dX10_readsWorths_15 ?_
      refine cl_i I (runV (As := [.int (iI (x + 3)), .int (iI 9)]) (rest := []) X (k_X10_isFigure l G S  (x + 3) 9 (t) L_ (fun i_ => (e_t i_)) e_L_ (by omega) (by omega) ht hc) (gdC tb_838 (gdC tb_840 (gdC tb_15 (gdC tb_48 (gdC tb_841 gdB))))) ⟨ok_X10_isFigure, ⟨Nat.le_of_ble_eq_true rfl, Nat.le_of_ble_eq_true rfl⟩, rfl, rfl⟩ (PreV.of (C := RX10) (T := TX10) (N := 41) I (atM_model) rfl) rfl hl.1 rfl (Nat.le_of_ble_eq_true rfl) dX10_readsWorths_17 ⟨Nat.zero_le _, Nat.zero_le _⟩) (fun r14 S15 H locs q16 I => ?_)
      obtain ⟨e1_, e2_⟩ := q16
      rw [e2_] at I
      rw [e1_]
      clear e1_ e2_
      rcases Decidable.em ((48 ≤ ltx t L_ (x + 3) ∧ ltx t L_ (x + 3) ≤ 48 + 9)) with b17 | b17
      · rw [bI_t b17]
        refine rz_eq (tgt := 49) X (by omega) dX10_readsWorths_20 (by decide) (fun c18 => absurd c18 (by decide)) (fun _ => ?_)
        refine lv_aload_n X.1 X.2.1 dX10_readsWorths_23 rfl (lv_at hl 1 rfl) ?_
        refine lv_iload_n X.1 X.2.1 dX10_readsWorths_24 rfl (lv_at hl 2 rfl) ?_
        refine ri_const X (v := 2) dX10_readsWorths_25 ?_
        refine ri_add X (v := (x + 2)) rfl dX10_readsWorths_26 ?_
        refine ri_const X (v := 2) dX10_readsWorths_27 ?_
        refine lv_iload_n X.1 X.2.1 dX10_readsWorths_28 rfl (lv_at hl 0 rfl) ?_
        refine ri_mul X (v := 2) (by decide) dX10_readsWorths_29 ?_
        refine ri_add X (v := (x + 4)) (by omega) dX10_readsWorths_30 ?_
        refine cl_i I (runV (As := [.int (iI (x + 4))]) (rest := []) X (k_X10_letterAt l G S  (x + 4) (t) L_ (fun i_ => (e_t i_)) e_L_ (by omega) ht hc) (gdC tb_842 (gdC tb_844 (gdC tb_16 (gdC tb_48 (gdC tb_845 gdB))))) ⟨ok_X10_letterAt, ⟨Nat.le_of_ble_eq_true rfl, Nat.le_of_ble_eq_true rfl⟩, rfl, rfl⟩ (PreV.of (C := RX10) (T := TX10) (N := 41) I (atM_model) rfl) rfl hl.1 rfl (Nat.le_of_ble_eq_true rfl) dX10_readsWorths_31 ⟨Nat.zero_le _, Nat.zero_le _⟩) (fun r19 S20 H locs q21 I => ?_)
        obtain ⟨e1_, e2_⟩ := q21
        rw [e2_] at I
        rw [e1_]
        clear e1_ e2_
        have t22 := ltx_r ht hc (x + 4)
        refine lv_iload_n X.1 X.2.1 dX10_readsWorths_34 rfl (lv_at hl 0 rfl) ?_
        refine ri_const X (v := 2) dX10_readsWorths_35 ?_
        refine rj_ge (tgt := 44) X (by omega) (by omega) dX10_readsWorths_36 (by decide) (fun c23 => absurd c23 (by decide)) (fun _ => ?_)
        refine ri_push X (v := 44) (by decide) dX10_readsWorths_39 ?_
        refine lv_goto (tgt := 46) X.1 X.2.1 dX10_readsWorths_41 (by decide) ?_
        refine rj_eq (tgt := 51) X (by omega) (by omega) dX10_readsWorths_46 (by decide) (fun c24 => ?_) (fun c24 => ?_)
        · skip
          refine ri_iinc X (k := 0) (v := 2) (lv' := [(2, .int (iI 2)), (0, .ref (G.2.2 0)), (1, .int (iI x))]) (by decide) dX10_readsWorths_51 hl rfl (by decide) rfl (fun ls hl => ?_)
          refine lv_goto (tgt := 2) X.1 X.2.1 dX10_readsWorths_54 (by decide) ?_
          refine lv_iload_n X.1 X.2.1 dX10_readsWorths_2 rfl (lv_at hl 0 rfl) ?_
          refine ri_const X (v := 3) dX10_readsWorths_3 ?_
          refine rj_ge (tgt := 57) X (by omega) (by omega) dX10_readsWorths_4 (by decide) (fun c25 => absurd c25 (by decide)) (fun _ => ?_)
          refine lv_aload_n X.1 X.2.1 dX10_readsWorths_7 rfl (lv_at hl 1 rfl) ?_
          refine lv_iload_n X.1 X.2.1 dX10_readsWorths_8 rfl (lv_at hl 2 rfl) ?_
          refine ri_const X (v := 1) dX10_readsWorths_9 ?_
          refine ri_add X (v := (x + 1)) rfl dX10_readsWorths_10 ?_
          refine ri_const X (v := 2) dX10_readsWorths_11 ?_
          refine lv_iload_n X.1 X.2.1 dX10_readsWorths_12 rfl (lv_at hl 0 rfl) ?_
          refine ri_mul X (v := 4) (by decide) dX10_readsWorths_13 ?_
          refine ri_add X (v := (x + 5)) (by omega) dX10_readsWorths_14 ?_
          refine ri_push X (v := 9) (by decide) dX10_readsWorths_15 ?_
          refine cl_i I (runV (As := [.int (iI (x + 5)), .int (iI 9)]) (rest := []) X (k_X10_isFigure l G S  (x + 5) 9 (t) L_ (fun i_ => (e_t i_)) e_L_ (by omega) (by omega) ht hc) (gdC tb_838 (gdC tb_840 (gdC tb_15 (gdC tb_48 (gdC tb_841 gdB))))) ⟨ok_X10_isFigure, ⟨Nat.le_of_ble_eq_true rfl, Nat.le_of_ble_eq_true rfl⟩, rfl, rfl⟩ (PreV.of (C := RX10) (T := TX10) (N := 41) I (atM_model) rfl) rfl hl.1 rfl (Nat.le_of_ble_eq_true rfl) dX10_readsWorths_17 ⟨Nat.zero_le _, Nat.zero_le _⟩) (fun r26 S27 H locs q28 I => ?_)
          obtain ⟨e1_, e2_⟩ := q28
          rw [e2_] at I
          rw [e1_]
          clear e1_ e2_
          rcases Decidable.em ((48 ≤ ltx t L_ (x + 5) ∧ ltx t L_ (x + 5) ≤ 48 + 9)) with b29 | b29
          · rw [bI_t b29]
            refine rz_eq (tgt := 49) X (by omega) dX10_readsWorths_20 (by decide) (fun c30 => absurd c30 (by decide)) (fun _ => ?_)
            refine lv_aload_n X.1 X.2.1 dX10_readsWorths_23 rfl (lv_at hl 1 rfl) ?_
            refine lv_iload_n X.1 X.2.1 dX10_readsWorths_24 rfl (lv_at hl 2 rfl) ?_
            refine ri_const X (v := 2) dX10_readsWorths_25 ?_
            refine ri_add X (v := (x + 2)) rfl dX10_readsWorths_26 ?_
            refine ri_const X (v := 2) dX10_readsWorths_27 ?_
            refine lv_iload_n X.1 X.2.1 dX10_readsWorths_28 rfl (lv_at hl 0 rfl) ?_
            refine ri_mul X (v := 4) (by decide) dX10_readsWorths_29 ?_
            refine ri_add X (v := (x + 6)) (by omega) dX10_readsWorths_30 ?_
            refine cl_i I (runV (As := [.int (iI (x + 6))]) (rest := []) X (k_X10_letterAt l G S  (x + 6) (t) L_ (fun i_ => (e_t i_)) e_L_ (by omega) ht hc) (gdC tb_842 (gdC tb_844 (gdC tb_16 (gdC tb_48 (gdC tb_845 gdB))))) ⟨ok_X10_letterAt, ⟨Nat.le_of_ble_eq_true rfl, Nat.le_of_ble_eq_true rfl⟩, rfl, rfl⟩ (PreV.of (C := RX10) (T := TX10) (N := 41) I (atM_model) rfl) rfl hl.1 rfl (Nat.le_of_ble_eq_true rfl) dX10_readsWorths_31 ⟨Nat.zero_le _, Nat.zero_le _⟩) (fun r31 S32 H locs q33 I => ?_)
            obtain ⟨e1_, e2_⟩ := q33
            rw [e2_] at I
            rw [e1_]
            clear e1_ e2_
            have t34 := ltx_r ht hc (x + 6)
            refine lv_iload_n X.1 X.2.1 dX10_readsWorths_34 rfl (lv_at hl 0 rfl) ?_
            refine ri_const X (v := 2) dX10_readsWorths_35 ?_
            refine rj_ge (tgt := 44) X (by omega) (by omega) dX10_readsWorths_36 (by decide) (fun _ => ?_) (fun c35 => absurd c35 (fun q => q (by decide)))
            refine ri_push X (v := 59) (by decide) dX10_readsWorths_44 ?_
            refine rj_eq (tgt := 51) X (by omega) (by omega) dX10_readsWorths_46 (by decide) (fun c36 => ?_) (fun c36 => ?_)
            · skip
              refine ri_iinc X (k := 0) (v := 3) (lv' := [(2, .int (iI 3)), (0, .ref (G.2.2 0)), (1, .int (iI x))]) (by decide) dX10_readsWorths_51 hl rfl (by decide) rfl (fun ls hl => ?_)
              refine lv_goto (tgt := 2) X.1 X.2.1 dX10_readsWorths_54 (by decide) ?_
              refine lv_iload_n X.1 X.2.1 dX10_readsWorths_2 rfl (lv_at hl 0 rfl) ?_
              refine ri_const X (v := 3) dX10_readsWorths_3 ?_
              refine rj_ge (tgt := 57) X (by omega) (by omega) dX10_readsWorths_4 (by decide) (fun _ => ?_) (fun c37 => absurd c37 (fun q => q (by decide)))
              refine ri_const X (v := 0) dX10_readsWorths_57 ?_
              refine lv_istore_n (lv' := [(2, .int (iI 0)), (0, .ref (G.2.2 0)), (1, .int (iI x))]) X.1 X.2.1 dX10_readsWorths_58 rfl hl (by decide) rfl (fun ls hl => ?_)
              refine lv_iload_n X.1 X.2.1 dX10_readsWorths_59 rfl (lv_at hl 0 rfl) ?_
              refine ri_const X (v := 3) dX10_readsWorths_60 ?_
              refine rj_ge (tgt := 90) X (by omega) (by omega) dX10_readsWorths_61 (by decide) (fun c38 => absurd c38 (by decide)) (fun _ => ?_)
              refine lv_aload_n X.1 X.2.1 dX10_readsWorths_64 rfl (lv_at hl 1 rfl) ?_
              refine gM_model_readWorths X I tb_707 dX10_readsWorths_65 ?_
              refine lv_iload_n X.1 X.2.1 dX10_readsWorths_68 rfl (lv_at hl 0 rfl) ?_
              refine lv_aload_n X.1 X.2.1 dX10_readsWorths_69 rfl (lv_at hl 1 rfl) ?_
              refine lv_iload_n X.1 X.2.1 dX10_readsWorths_70 rfl (lv_at hl 2 rfl) ?_
              refine ri_const X (v := 1) dX10_readsWorths_71 ?_
              refine ri_add X (v := (x + 1)) rfl dX10_readsWorths_72 ?_
              refine ri_const X (v := 2) dX10_readsWorths_73 ?_
              refine lv_iload_n X.1 X.2.1 dX10_readsWorths_74 rfl (lv_at hl 0 rfl) ?_
              refine ri_mul X (v := 0) (by decide) dX10_readsWorths_75 ?_
              refine ri_add X (v := (x + 1)) (by omega) dX10_readsWorths_76 ?_
              refine cl_i I (runV (As := [.int (iI (x + 1))]) (rest := [.int (iI 0), .ref (G.2.2 11)]) X (k_X10_letterAt l G S  (x + 1) (t) L_ (fun i_ => (e_t i_)) e_L_ (by omega) ht hc) (gdC tb_842 (gdC tb_844 (gdC tb_16 (gdC tb_48 (gdC tb_845 gdB))))) ⟨ok_X10_letterAt, ⟨Nat.le_of_ble_eq_true rfl, Nat.le_of_ble_eq_true rfl⟩, rfl, rfl⟩ (PreV.of (C := RX10) (T := TX10) (N := 41) I (atM_model) rfl) rfl hl.1 rfl (Nat.le_of_ble_eq_true rfl) dX10_readsWorths_77 ⟨Nat.zero_le _, Nat.zero_le _⟩) (fun r39 S40 H locs q41 I => ?_)
              obtain ⟨e1_, e2_⟩ := q41
              rw [e2_] at I
              rw [e1_]
              clear e1_ e2_
              have t42 := ltx_r ht hc (x + 1)
              refine ri_push X (v := 48) (by decide) dX10_readsWorths_80 ?_
              refine ri_sub X (v := ((ltx t L_ (x + 1)) - 48)) rfl dX10_readsWorths_82 ?_
              refine qM_readWorths X I (by omega) dX10_readsWorths_83 (fun H locs I => ?_)
              have I : In (KM G) s s.heap H locs ((ua S.1 11 0 ((ltx t L_ (x + 1)) - 48)), S.2) := I
              refine ri_iinc X (k := 0) (v := 1) (lv' := [(2, .int (iI 1)), (0, .ref (G.2.2 0)), (1, .int (iI x))]) (by decide) dX10_readsWorths_84 hl rfl (by decide) rfl (fun ls hl => ?_)
              refine lv_goto (tgt := 59) X.1 X.2.1 dX10_readsWorths_87 (by decide) ?_
              refine lv_iload_n X.1 X.2.1 dX10_readsWorths_59 rfl (lv_at hl 0 rfl) ?_
              refine ri_const X (v := 3) dX10_readsWorths_60 ?_
              refine rj_ge (tgt := 90) X (by omega) (by omega) dX10_readsWorths_61 (by decide) (fun c43 => absurd c43 (by decide)) (fun _ => ?_)
              refine lv_aload_n X.1 X.2.1 dX10_readsWorths_64 rfl (lv_at hl 1 rfl) ?_
              refine gM_model_readWorths X I tb_707 dX10_readsWorths_65 ?_
              refine lv_iload_n X.1 X.2.1 dX10_readsWorths_68 rfl (lv_at hl 0 rfl) ?_
              refine lv_aload_n X.1 X.2.1 dX10_readsWorths_69 rfl (lv_at hl 1 rfl) ?_
              refine lv_iload_n X.1 X.2.1 dX10_readsWorths_70 rfl (lv_at hl 2 rfl) ?_
              refine ri_const X (v := 1) dX10_readsWorths_71 ?_
              refine ri_add X (v := (x + 1)) rfl dX10_readsWorths_72 ?_
              refine ri_const X (v := 2) dX10_readsWorths_73 ?_
              refine lv_iload_n X.1 X.2.1 dX10_readsWorths_74 rfl (lv_at hl 0 rfl) ?_
              refine ri_mul X (v := 2) (by decide) dX10_readsWorths_75 ?_
              refine ri_add X (v := (x + 3)) (by omega) dX10_readsWorths_76 ?_
              refine cl_i I (runV (As := [.int (iI (x + 3))]) (rest := [.int (iI 1), .ref (G.2.2 11)]) X (k_X10_letterAt l G ((ua S.1 11 0 ((ltx t L_ (x + 1)) - 48)), S.2)  (x + 3) (t) L_ (fun i_ => (by show (ua S.1 11 0 ((ltx t L_ (x + 1)) - 48)) 1 i_ = _; rw [ua_nc (by decide)]; exact (e_t i_))) (by show (ua S.1 11 0 ((ltx t L_ (x + 1)) - 48)) 50 0 = _; rw [ua_nc (by decide)]; exact e_L_) (by omega) ht hc) (gdC tb_842 (gdC tb_844 (gdC tb_16 (gdC tb_48 (gdC tb_845 gdB))))) ⟨ok_X10_letterAt, ⟨Nat.le_of_ble_eq_true rfl, Nat.le_of_ble_eq_true rfl⟩, rfl, rfl⟩ (PreV.of (C := RX10) (T := TX10) (N := 41) I (atM_model) rfl) rfl hl.1 rfl (Nat.le_of_ble_eq_true rfl) dX10_readsWorths_77 ⟨Nat.zero_le _, Nat.zero_le _⟩) (fun r44 S45 H locs q46 I => ?_)
              obtain ⟨e1_, e2_⟩ := q46
              rw [e2_] at I
              rw [e1_]
              clear e1_ e2_
              have t47 := ltx_r ht hc (x + 3)
              refine ri_push X (v := 48) (by decide) dX10_readsWorths_80 ?_
              refine ri_sub X (v := ((ltx t L_ (x + 3)) - 48)) rfl dX10_readsWorths_82 ?_
              refine qM_readWorths X I (by omega) dX10_readsWorths_83 (fun H locs I => ?_)
              have I : In (KM G) s s.heap H locs ((ua (ua S.1 11 0 ((ltx t L_ (x + 1)) - 48)) 11 1 ((ltx t L_ (x + 3)) - 48)), S.2) := I
              refine ri_iinc X (k := 0) (v := 2) (lv' := [(2, .int (iI 2)), (0, .ref (G.2.2 0)), (1, .int (iI x))]) (by decide) dX10_readsWorths_84 hl rfl (by decide) rfl (fun ls hl => ?_)
              refine lv_goto (tgt := 59) X.1 X.2.1 dX10_readsWorths_87 (by decide) ?_
              refine lv_iload_n X.1 X.2.1 dX10_readsWorths_59 rfl (lv_at hl 0 rfl) ?_
              refine ri_const X (v := 3) dX10_readsWorths_60 ?_
              refine rj_ge (tgt := 90) X (by omega) (by omega) dX10_readsWorths_61 (by decide) (fun c48 => absurd c48 (by decide)) (fun _ => ?_)
              refine lv_aload_n X.1 X.2.1 dX10_readsWorths_64 rfl (lv_at hl 1 rfl) ?_
              refine gM_model_readWorths X I tb_707 dX10_readsWorths_65 ?_
              refine lv_iload_n X.1 X.2.1 dX10_readsWorths_68 rfl (lv_at hl 0 rfl) ?_
              refine lv_aload_n X.1 X.2.1 dX10_readsWorths_69 rfl (lv_at hl 1 rfl) ?_
              refine lv_iload_n X.1 X.2.1 dX10_readsWorths_70 rfl (lv_at hl 2 rfl) ?_
              refine ri_const X (v := 1) dX10_readsWorths_71 ?_
              refine ri_add X (v := (x + 1)) rfl dX10_readsWorths_72 ?_
              refine ri_const X (v := 2) dX10_readsWorths_73 ?_
              refine lv_iload_n X.1 X.2.1 dX10_readsWorths_74 rfl (lv_at hl 0 rfl) ?_
              refine ri_mul X (v := 4) (by decide) dX10_readsWorths_75 ?_
              refine ri_add X (v := (x + 5)) (by omega) dX10_readsWorths_76 ?_
              refine cl_i I (runV (As := [.int (iI (x + 5))]) (rest := [.int (iI 2), .ref (G.2.2 11)]) X (k_X10_letterAt l G ((ua (ua S.1 11 0 ((ltx t L_ (x + 1)) - 48)) 11 1 ((ltx t L_ (x + 3)) - 48)), S.2)  (x + 5) (t) L_ (fun i_ => (by show (ua (ua S.1 11 0 ((ltx t L_ (x + 1)) - 48)) 11 1 ((ltx t L_ (x + 3)) - 48)) 1 i_ = _; rw [ua_nc (by decide), ua_nc (by decide)]; exact (e_t i_))) (by show (ua (ua S.1 11 0 ((ltx t L_ (x + 1)) - 48)) 11 1 ((ltx t L_ (x + 3)) - 48)) 50 0 = _; rw [ua_nc (by decide), ua_nc (by decide)]; exact e_L_) (by omega) ht hc) (gdC tb_842 (gdC tb_844 (gdC tb_16 (gdC tb_48 (gdC tb_845 gdB))))) ⟨ok_X10_letterAt, ⟨Nat.le_of_ble_eq_true rfl, Nat.le_of_ble_eq_true rfl⟩, rfl, rfl⟩ (PreV.of (C := RX10) (T := TX10) (N := 41) I (atM_model) rfl) rfl hl.1 rfl (Nat.le_of_ble_eq_true rfl) dX10_readsWorths_77 ⟨Nat.zero_le _, Nat.zero_le _⟩) (fun r49 S50 H locs q51 I => ?_)
              obtain ⟨e1_, e2_⟩ := q51
              rw [e2_] at I
              rw [e1_]
              clear e1_ e2_
              have t52 := ltx_r ht hc (x + 5)
              refine ri_push X (v := 48) (by decide) dX10_readsWorths_80 ?_
              refine ri_sub X (v := ((ltx t L_ (x + 5)) - 48)) rfl dX10_readsWorths_82 ?_
              refine qM_readWorths X I (by omega) dX10_readsWorths_83 (fun H locs I => ?_)
              have I : In (KM G) s s.heap H locs ((ua (ua (ua S.1 11 0 ((ltx t L_ (x + 1)) - 48)) 11 1 ((ltx t L_ (x + 3)) - 48)) 11 2 ((ltx t L_ (x + 5)) - 48)), S.2) := I
              refine ri_iinc X (k := 0) (v := 3) (lv' := [(2, .int (iI 3)), (0, .ref (G.2.2 0)), (1, .int (iI x))]) (by decide) dX10_readsWorths_84 hl rfl (by decide) rfl (fun ls hl => ?_)
              refine lv_goto (tgt := 59) X.1 X.2.1 dX10_readsWorths_87 (by decide) ?_
              refine lv_iload_n X.1 X.2.1 dX10_readsWorths_59 rfl (lv_at hl 0 rfl) ?_
              refine ri_const X (v := 3) dX10_readsWorths_60 ?_
              refine rj_ge (tgt := 90) X (by omega) (by omega) dX10_readsWorths_61 (by decide) (fun _ => ?_) (fun c53 => absurd c53 (fun q => q (by decide)))
              refine lv_iload_n X.1 X.2.1 dX10_readsWorths_90 rfl (lv_at hl 2 rfl) ?_
              refine ri_push X (v := 7) (by decide) dX10_readsWorths_91 ?_
              refine ri_add X (v := (x + 7)) rfl dX10_readsWorths_93 ?_
              exact rt_i X hr hlk I rfl (by exact Or.inr ⟨by unfold bWor; rw [if_pos (by omega)]; omega, rfl, rfl⟩) dX10_readsWorths_94
            · skip
              refine ri_const X (v := (-1)) dX10_readsWorths_49 ?_
              exact rt_i X hr hlk I rfl (by exact Or.inl ⟨by unfold bWor; rw [if_neg (by omega)], rfl, rfl⟩) dX10_readsWorths_50
          · rw [bI_f b29]
            refine rz_eq (tgt := 49) X (by omega) dX10_readsWorths_20 (by decide) (fun _ => ?_) (fun c54 => absurd c54 (fun q => q (by decide)))
            refine ri_const X (v := (-1)) dX10_readsWorths_49 ?_
            exact rt_i X hr hlk I rfl (by exact Or.inl ⟨by unfold bWor; rw [if_neg (by omega)], rfl, rfl⟩) dX10_readsWorths_50
        · skip
          refine ri_const X (v := (-1)) dX10_readsWorths_49 ?_
          exact rt_i X hr hlk I rfl (by exact Or.inl ⟨by unfold bWor; rw [if_neg (by omega)], rfl, rfl⟩) dX10_readsWorths_50
      · rw [bI_f b17]
        refine rz_eq (tgt := 49) X (by omega) dX10_readsWorths_20 (by decide) (fun _ => ?_) (fun c55 => absurd c55 (fun q => q (by decide)))
        refine ri_const X (v := (-1)) dX10_readsWorths_49 ?_
        exact rt_i X hr hlk I rfl (by exact Or.inl ⟨by unfold bWor; rw [if_neg (by omega)], rfl, rfl⟩) dX10_readsWorths_50
    · skip
      refine ri_const X (v := (-1)) dX10_readsWorths_49 ?_
      exact rt_i X hr hlk I rfl (by exact Or.inl ⟨by unfold bWor; rw [if_neg (by omega)], rfl, rfl⟩) dX10_readsWorths_50
  · rw [bI_f b5]
    refine rz_eq (tgt := 49) X (by omega) dX10_readsWorths_20 (by decide) (fun _ => ?_) (fun c56 => absurd c56 (fun q => q (by decide)))
    refine ri_const X (v := (-1)) dX10_readsWorths_49 ?_
    exact rt_i X hr hlk I rfl (by exact Or.inl ⟨by unfold bWor; rw [if_neg (by omega)], rfl, rfl⟩) dX10_readsWorths_50

theorem ok_X10_reads : yX10_reads.cls ≠ "java/lang/invoke/MethodHandle" ∧ yX10_reads.cls ≠ "java/lang/invoke/VarHandle" ∧ (parseMethodDescriptor yX10_reads.desc).map (fun d => d.parameters.length) = some 0 := ⟨by decide +kernel, by decide +kernel, by decide +kernel⟩
abbrev po_X10_reads (S : St)  (t : Int → Int) (L_ : Int) : Int → St → Prop := fun r S1 => r = flt (ltx t L_) L_ 200 0 0 ∧ S1.2 = S.2 ∧ (∀ (c_ : Nat) (i : Int), ¬ (8 ≤ c_ ∧ c_ ≤ 11) → ¬ c_ = 52 → S1.1 c_ i = S.1 c_ i) ∧ (r = -4 → rdP S1.1 (ltx t L_) L_)
abbrev rm_X10_reads : Room := ({ frames := 3, cells := 0, slots := 0, locals := 66 } : Room)
set_option maxRecDepth 100000 in
set_option maxHeartbeats 4000000 in
theorem k_X10_reads (l : Launch) (G : Ge) (S : St)  (t : Int → Int) (L_ : Int) (e_t : ∀ i : Int, S.1 1 i = t i) (e_L_ : S.1 50 0 = L_) (ht : 0 ≤ L_ ∧ L_ ≤ 200) (hc : ∀ i : Int, 0 ≤ i → i < L_ → 32 ≤ t i ∧ t i ≤ 126) : Ki (KM G) l yX10_reads cX10_reads 3 .int rm_X10_reads [.ref (G.2.2 0)] S (po_X10_reads S t L_) := by
  refine K_start (own := "NameSeekerModel") (by decide +kernel) rfl (Nat.le_of_ble_eq_true rfl) ?_
  intro p e s m args below meth c X hr hlk I ls hl
  have hl : lv_has ls 3 [(0, .ref (G.2.2 0))] := hl
  refine lv_aload_n X.1 X.2.1 dX10_reads_0 rfl (lv_at hl 0 rfl) ?_
  refine ri_const X (v := 0) dX10_reads_1 ?_
  refine pM_model_readNames X I tb_703 dX10_reads_2 (fun H locs I => ?_)
  have I : In (KM G) s s.heap H locs ((us S.1 52 0), S.2) := I
  refine lv_aload_n X.1 X.2.1 dX10_reads_5 rfl (lv_at hl 0 rfl) ?_
  refine gM_model_readWorths X I tb_707 dX10_reads_6 ?_
  refine ri_const X (v := 0) dX10_reads_9 ?_
  refine ri_const X (v := 3) dX10_reads_10 ?_
  refine qM_readWorths X I (by omega) dX10_reads_11 (fun H locs I => ?_)
  have I : In (KM G) s s.heap H locs ((ua (us S.1 52 0) 11 0 3), S.2) := I
  refine lv_aload_n X.1 X.2.1 dX10_reads_12 rfl (lv_at hl 0 rfl) ?_
  refine gM_model_readWorths X I tb_707 dX10_reads_13 ?_
  refine ri_const X (v := 1) dX10_reads_16 ?_
  refine ri_const X (v := 2) dX10_reads_17 ?_
  refine qM_readWorths X I (by omega) dX10_reads_18 (fun H locs I => ?_)
  have I : In (KM G) s s.heap H locs ((ua (ua (us S.1 52 0) 11 0 3) 11 1 2), S.2) := I
  refine lv_aload_n X.1 X.2.1 dX10_reads_19 rfl (lv_at hl 0 rfl) ?_
  refine gM_model_readWorths X I tb_707 dX10_reads_20 ?_
  refine ri_const X (v := 2) dX10_reads_23 ?_
  refine ri_const X (v := 1) dX10_reads_24 ?_
  refine qM_readWorths X I (by omega) dX10_reads_25 (fun H locs I => ?_)
  have I : In (KM G) s s.heap H locs ((ua (ua (ua (us S.1 52 0) 11 0 3) 11 1 2) 11 2 1), S.2) := I
  refine ri_const X (v := 0) dX10_reads_26 ?_
  refine lv_istore_n (lv' := [(1, .int (iI 0)), (0, .ref (G.2.2 0))]) X.1 X.2.1 dX10_reads_27 rfl hl (by decide) rfl (fun ls hl => ?_)
  have lp_28 : ∀ (fu_ : Nat) (a : Int) (i : Int) (U : Nat → Int → Int), (200 - i).toNat < fu_ → ∀ (hi : 0 ≤ i ∧ i ≤ 200 ∧ i ≤ a ∧ a ≤ L_) (ha : a = itm (ltx t L_) i.toNat) (hfl : flt (ltx t L_) L_ (200 - i).toNat a (cnt (ltx t L_) i.toNat) = flt (ltx t L_) L_ 200 0 0) (hrd : rdI U (ltx t L_) i.toNat) (hcn : 0 ≤ cnt (ltx t L_) i.toNat ∧ cnt (ltx t L_) i.toNat ≤ 8) (hall : ∀ k : Nat, k < i.toNat → itm (ltx t L_) k < L_ ∧ ¬ bItm (ltx t L_) (itm (ltx t L_) k) = -1) (hfr : ∀ (c_ : Nat) (i : Int), ¬ (8 ≤ c_ ∧ c_ ≤ 11) → ¬ c_ = 52 → U c_ i = S.1 c_ i) (H : Heap) (locs : List Loc), In (KM G) s s.heap H locs (U, S.2) → ∀ ls : Array Slot, lv_has ls 3 [(0, .ref (G.2.2 0)), (1, .int (iI a))] → W p l e rm_X10_reads s m args below meth c H locs 0 0 (MQ below (QI (KM G) (po_X10_reads S t L_)) args s 0 0 (KM G).2.2.2) (F0 m 28 ls []) := by
    intro fu_
    induction fu_ with
    | zero => intro a i U hm; exact absurd hm (by omega)
    | succ fu_ ih_28 =>
      intro a i U hm_28 hi ha hfl hrd hcn hall hfr H locs I ls hl
      refine lv_iload_n X.1 X.2.1 dX10_reads_28 rfl (lv_at hl 1 rfl) ?_
      refine lv_aload_n X.1 X.2.1 dX10_reads_29 rfl (lv_at hl 0 rfl) ?_
      refine gM_model_length X I (v := L_) ((hfr 50 0 (by omega) (by omega)).trans e_L_) tb_694 dX10_reads_30 ?_
      refine rj_ge (tgt := 86) X (by omega) (by omega) dX10_reads_33 (by decide) (fun c1 => ?_) (fun c1 => ?_)
      · skip
        refine ri_push X (v := (-4)) (by decide) dX10_reads_86 ?_
        exact rt_i X hr hlk I rfl (by exact ⟨by rw [← hfl, flt_end (by omega)], rfl, hfr, fun _ => ⟨i.toNat, by omega, hall, hcn.2, hrd⟩⟩) dX10_reads_88
      · skip
        have hta : ltx t L_ a = t a := by unfold ltx; rw [if_pos (by omega)]
        have htr := hc a (by omega) (by omega)
        have hbr := ltx_b (t := t) ht a
        have h52 := hrd.1
        refine ri_const X (v := (-1)) dX10_reads_36 ?_
        refine lv_istore_n (lv' := [(2, .int (iI (-1))), (0, .ref (G.2.2 0)), (1, .int (iI a))]) X.1 X.2.1 dX10_reads_37 rfl hl (by decide) rfl (fun ls hl => ?_)
        refine lv_aload_n X.1 X.2.1 dX10_reads_38 rfl (lv_at hl 1 rfl) ?_
        refine gM_model_text X I tb_695 dX10_reads_39 ?_
        refine lv_iload_n X.1 X.2.1 dX10_reads_42 rfl (lv_at hl 2 rfl) ?_
        refine aM_text X I (v := (t a)) ((hfr 1 a (by omega) (by omega)).trans (e_t a)) (by omega) dX10_reads_43 ?_
        refine ri_push X (v := 115) (by decide) dX10_reads_44 ?_
        refine rj_ne (tgt := 58) X (by omega) (by omega) dX10_reads_46 (by decide) (fun c2 => ?_) (fun c2 => ?_)
        · skip
          refine lv_aload_n X.1 X.2.1 dX10_reads_58 rfl (lv_at hl 1 rfl) ?_
          refine gM_model_text X I tb_695 dX10_reads_59 ?_
          refine lv_iload_n X.1 X.2.1 dX10_reads_62 rfl (lv_at hl 2 rfl) ?_
          refine aM_text X I (v := (t a)) ((hfr 1 a (by omega) (by omega)).trans (e_t a)) (by omega) dX10_reads_63 ?_
          refine ri_push X (v := 119) (by decide) dX10_reads_64 ?_
          refine rj_ne (tgt := 75) X (by omega) (by omega) dX10_reads_66 (by decide) (fun c3 => ?_) (fun c3 => ?_)
          · skip
            refine lv_iload_n X.1 X.2.1 dX10_reads_75 rfl (lv_at hl 0 rfl) ?_
            refine rz_ge (tgt := 81) X (by omega) dX10_reads_76 (by decide) (fun c4 => absurd c4 (by decide)) (fun _ => ?_)
            have hbad : flt (ltx t L_) L_ (200 - i).toNat a (cnt (ltx t L_) i.toNat) = a := by
              refine flt_bad (by omega) (by omega) ?_
              first
              | (exfalso; omega)
              | exact hA1.elim (fun z => Or.inr (Or.inl ⟨by omega, by omega⟩)) (fun z => Or.inl (by unfold bItm; rw [if_pos (by omega)]; exact z))
              | exact Or.inl (by unfold bItm; rw [if_neg (by omega), if_pos (by omega)]; exact hA1)
              | exact Or.inl (by unfold bItm; rw [if_neg (by omega), if_neg (by omega)])
            refine lv_iload_n X.1 X.2.1 dX10_reads_79 rfl (lv_at hl 2 rfl) ?_
            exact rt_i X hr hlk I rfl (by first | exact ⟨by rw [← hfl, hbad], rfl, hfr, fun z => absurd z (by omega)⟩ | (exfalso; omega)) dX10_reads_80
          · skip
            refine lv_aload_n X.1 X.2.1 dX10_reads_69 rfl (lv_at hl 1 rfl) ?_
            refine lv_iload_n X.1 X.2.1 dX10_reads_70 rfl (lv_at hl 2 rfl) ?_
            refine cl_i I (runV (As := [.int (iI a)]) (rest := []) X (k_X10_readsWorths l G (U, S.2)  a (t) L_ (fun i_ => ((hfr 1 i_ (by omega) (by omega)).trans (e_t i_))) ((hfr 50 0 (by omega) (by omega)).trans e_L_) (by omega) ht hc) (gdC tb_855 (gdC tb_857 (gdC tb_17 (gdC tb_48 (gdC tb_858 gdB))))) ⟨ok_X10_readsWorths, ⟨Nat.le_of_ble_eq_true rfl, Nat.le_of_ble_eq_true rfl⟩, rfl, rfl⟩ (PreV.of (C := RX10) (T := TX10) (N := 41) I (atM_model) rfl) rfl hl.1 rfl (Nat.le_of_ble_eq_true rfl) dX10_reads_71 ⟨Nat.zero_le _, Nat.zero_le _⟩) (fun r5 S6 H locs q7 I => ?_)
            rcases q7 with ⟨hA1, hA2, hA3⟩ | ⟨hB1, hB2, hB3⟩
            · rw [hA3] at I
              rw [hA2]
              refine lv_istore_n (lv' := [(2, .int (iI (-1))), (0, .ref (G.2.2 0)), (1, .int (iI a))]) X.1 X.2.1 dX10_reads_74 rfl hl (by decide) rfl (fun ls hl => ?_)
              refine lv_iload_n X.1 X.2.1 dX10_reads_75 rfl (lv_at hl 0 rfl) ?_
              refine rz_ge (tgt := 81) X (by omega) dX10_reads_76 (by decide) (fun c8 => absurd c8 (by decide)) (fun _ => ?_)
              have hbad : flt (ltx t L_) L_ (200 - i).toNat a (cnt (ltx t L_) i.toNat) = a := by
                refine flt_bad (by omega) (by omega) ?_
                first
                | (exfalso; omega)
                | exact hA1.elim (fun z => Or.inr (Or.inl ⟨by omega, by omega⟩)) (fun z => Or.inl (by unfold bItm; rw [if_pos (by omega)]; exact z))
                | exact Or.inl (by unfold bItm; rw [if_neg (by omega), if_pos (by omega)]; exact hA1)
                | exact Or.inl (by unfold bItm; rw [if_neg (by omega), if_neg (by omega)])
              refine lv_iload_n X.1 X.2.1 dX10_reads_79 rfl (lv_at hl 2 rfl) ?_
              exact rt_i X hr hlk I rfl (by first | exact ⟨by rw [← hfl, hbad], rfl, hfr, fun z => absurd z (by omega)⟩ | (exfalso; omega)) dX10_reads_80
            · rw [hB3] at I
              rw [hB2]
              have I : In (KM G) s s.heap H locs ((ua (ua (ua U 11 0 (ltx t L_ (a + 1) - 48)) 11 1 (ltx t L_ (a + 3) - 48)) 11 2 (ltx t L_ (a + 5) - 48)), S.2) := I
              have hbI : bItm (ltx t L_) a = a + 7 := by unfold bItm; rw [if_neg (by omega), if_pos (by omega)]; exact bWor_y hB1
              have hrdV : rdI (ua (ua (ua U 11 0 (ltx t L_ (a + 1) - 48)) 11 1 (ltx t L_ (a + 3) - 48)) 11 2 (ltx t L_ (a + 5) - 48)) (ltx t L_) (i + 1).toNat := rdI_w (by omega) ha (by omega) (by omega) hrd
              have hfrV : ∀ (c_ : Nat) (i : Int), ¬ (8 ≤ c_ ∧ c_ ≤ 11) → ¬ c_ = 52 → (ua (ua (ua U 11 0 (ltx t L_ (a + 1) - 48)) 11 1 (ltx t L_ (a + 3) - 48)) 11 2 (ltx t L_ (a + 5) - 48)) c_ i = S.1 c_ i := fun c_ y h1 h2 => by rw [ua_nc (by omega), ua_nc (by omega), ua_nc (by omega)]; exact hfr c_ y h1 h2
              have hc115 : (if (ltx t L_) a = 115 then (1 : Int) else 0) = 0 := if_neg (by omega)
              have hstep := flt_go (f := (ltx t L_)) (len := L_) (i := i) (a := a) (n := cnt (ltx t L_) i.toNat) (n2 := cnt (ltx t L_) i.toNat + (if (ltx t L_) a = 115 then 1 else 0)) (by omega) (by omega) (by omega)
              rw [hbI] at hstep
              refine lv_istore_n (lv' := [(2, .int (iI (a + 7))), (0, .ref (G.2.2 0)), (1, .int (iI a))]) X.1 X.2.1 dX10_reads_74 rfl hl (by decide) rfl (fun ls hl => ?_)
              refine lv_iload_n X.1 X.2.1 dX10_reads_75 rfl (lv_at hl 0 rfl) ?_
              refine rz_ge (tgt := 81) X (by omega) dX10_reads_76 (by decide) (fun c9 => ?_) (fun c9 => ?_)
              · skip
                refine lv_iload_n X.1 X.2.1 dX10_reads_81 rfl (lv_at hl 0 rfl) ?_
                refine lv_istore_n (lv' := [(1, .int (iI (a + 7))), (2, .int (iI (a + 7))), (0, .ref (G.2.2 0))]) X.1 X.2.1 dX10_reads_82 rfl hl (by decide) rfl (fun ls hl => ?_)
                refine lv_goto (tgt := 28) X.1 X.2.1 dX10_reads_83 (by decide) ?_
                exact ih_28 (a + 7) (i + 1) (ua (ua (ua U 11 0 (ltx t L_ (a + 1) - 48)) 11 1 (ltx t L_ (a + 3) - 48)) 11 2 (ltx t L_ (a + 5) - 48)) (by omega) (by omega) (by rw [itm_s (by omega), ← ha, hbI]) (by rw [← hfl, cnt_s (by omega), ← ha]; exact hstep.symm) (hrdV) (by rw [cnt_s (by omega), ← ha]; omega) (fun k hk => if h : k = i.toNat then (by rw [h, ← ha]; exact ⟨by omega, by rw [hbI]; omega⟩) else hall k (by omega)) (hfrV) _ _ I ls (lv_sub hl [2, 0] rfl)
              · skip
                have hbad : flt (ltx t L_) L_ (200 - i).toNat a (cnt (ltx t L_) i.toNat) = a := by
                  refine flt_bad (by omega) (by omega) ?_
                  first
                  | (exfalso; omega)
                  | exact hA1.elim (fun z => Or.inr (Or.inl ⟨by omega, by omega⟩)) (fun z => Or.inl (by unfold bItm; rw [if_pos (by omega)]; exact z))
                  | exact Or.inl (by unfold bItm; rw [if_neg (by omega), if_pos (by omega)]; exact hA1)
                  | exact Or.inl (by unfold bItm; rw [if_neg (by omega), if_neg (by omega)])
                refine lv_iload_n X.1 X.2.1 dX10_reads_79 rfl (lv_at hl 2 rfl) ?_
                exact rt_i X hr hlk I rfl (by first | exact ⟨by rw [← hfl, hbad], rfl, hfr, fun z => absurd z (by omega)⟩ | (exfalso; omega)) dX10_reads_80
        · skip
          refine lv_aload_n X.1 X.2.1 dX10_reads_49 rfl (lv_at hl 1 rfl) ?_
          refine lv_iload_n X.1 X.2.1 dX10_reads_50 rfl (lv_at hl 2 rfl) ?_
          refine cl_i I (runV (As := [.int (iI a)]) (rest := []) X (k_X10_readsName l G (U, S.2)  a (t) L_ (fun i_ => ((hfr 1 i_ (by omega) (by omega)).trans (e_t i_))) ((hfr 50 0 (by omega) (by omega)).trans e_L_) (by omega) (by show 0 ≤ U 52 0 ∧ U 52 0 ≤ 8; omega) ht hc) (gdC tb_834 (gdC tb_836 (gdC tb_14 (gdC tb_48 (gdC tb_837 gdB))))) ⟨ok_X10_readsName, ⟨Nat.le_of_ble_eq_true rfl, Nat.le_of_ble_eq_true rfl⟩, rfl, rfl⟩ (PreV.of (C := RX10) (T := TX10) (N := 41) I (atM_model) rfl) rfl hl.1 rfl (Nat.le_of_ble_eq_true rfl) dX10_reads_51 ⟨Nat.zero_le _, Nat.zero_le _⟩) (fun r10 S11 H locs q12 I => ?_)
          rcases q12 with ⟨hA1, hA2, hA3⟩ | ⟨hB1, hB2, hB3, hB4, hB5⟩
          · rw [hA3] at I
            rw [hA2]
            dsimp only at hA1
            refine lv_istore_n (lv' := [(2, .int (iI (-1))), (0, .ref (G.2.2 0)), (1, .int (iI a))]) X.1 X.2.1 dX10_reads_54 rfl hl (by decide) rfl (fun ls hl => ?_)
            refine lv_goto (tgt := 75) X.1 X.2.1 dX10_reads_55 (by decide) ?_
            refine lv_iload_n X.1 X.2.1 dX10_reads_75 rfl (lv_at hl 0 rfl) ?_
            refine rz_ge (tgt := 81) X (by omega) dX10_reads_76 (by decide) (fun c13 => absurd c13 (by decide)) (fun _ => ?_)
            have hbad : flt (ltx t L_) L_ (200 - i).toNat a (cnt (ltx t L_) i.toNat) = a := by
              refine flt_bad (by omega) (by omega) ?_
              first
              | (exfalso; omega)
              | exact hA1.elim (fun z => Or.inr (Or.inl ⟨by omega, by omega⟩)) (fun z => Or.inl (by unfold bItm; rw [if_pos (by omega)]; exact z))
              | exact Or.inl (by unfold bItm; rw [if_neg (by omega), if_pos (by omega)]; exact hA1)
              | exact Or.inl (by unfold bItm; rw [if_neg (by omega), if_neg (by omega)])
            refine lv_iload_n X.1 X.2.1 dX10_reads_79 rfl (lv_at hl 2 rfl) ?_
            exact rt_i X hr hlk I rfl (by first | exact ⟨by rw [← hfl, hbad], rfl, hfr, fun z => absurd z (by omega)⟩ | (exfalso; omega)) dX10_reads_80
          · obtain ⟨V1, V2⟩ := S11
            dsimp only at hB4 hB5
            subst hB4
            rw [hB3]
            have hbI : bItm (ltx t L_) a = bNam (ltx t L_) a := by unfold bItm; rw [if_pos (by omega)]
            have hgeN : 0 ≤ bNam (ltx t L_) a := by omega
            have hrdV : rdI V1 (ltx t L_) (i + 1).toNat := rdI_n (by omega) ha (by omega) hrd hB5 (fun k hk => (hall k hk).2)
            have hfrV : ∀ (c_ : Nat) (i : Int), ¬ (8 ≤ c_ ∧ c_ ≤ 11) → ¬ c_ = 52 → V1 c_ i = S.1 c_ i := fun c_ y h1 h2 => (hB5.2.2 c_ y (by omega) (by omega) (by omega) h2).trans (hfr c_ y h1 h2)
            have hB1_ : U 52 0 < 8 := hB1
            have hc115 : (if (ltx t L_) a = 115 then (1 : Int) else 0) = 1 := if_pos (by omega)
            have hstep := flt_go (f := (ltx t L_)) (len := L_) (i := i) (a := a) (n := cnt (ltx t L_) i.toNat) (n2 := cnt (ltx t L_) i.toNat + (if (ltx t L_) a = 115 then 1 else 0)) (by omega) (by omega) (by omega)
            rw [hbI] at hstep
            refine lv_istore_n (lv' := [(2, .int (iI (bNam (ltx t L_) a))), (0, .ref (G.2.2 0)), (1, .int (iI a))]) X.1 X.2.1 dX10_reads_54 rfl hl (by decide) rfl (fun ls hl => ?_)
            refine lv_goto (tgt := 75) X.1 X.2.1 dX10_reads_55 (by decide) ?_
            refine lv_iload_n X.1 X.2.1 dX10_reads_75 rfl (lv_at hl 0 rfl) ?_
            refine rz_ge (tgt := 81) X (by omega) dX10_reads_76 (by decide) (fun c14 => ?_) (fun c14 => ?_)
            · skip
              refine lv_iload_n X.1 X.2.1 dX10_reads_81 rfl (lv_at hl 0 rfl) ?_
              refine lv_istore_n (lv' := [(1, .int (iI (bNam (ltx t L_) a))), (2, .int (iI (bNam (ltx t L_) a))), (0, .ref (G.2.2 0))]) X.1 X.2.1 dX10_reads_82 rfl hl (by decide) rfl (fun ls hl => ?_)
              refine lv_goto (tgt := 28) X.1 X.2.1 dX10_reads_83 (by decide) ?_
              exact ih_28 (bNam (ltx t L_) a) (i + 1) V1 (by omega) (by omega) (by rw [itm_s (by omega), ← ha, hbI]) (by rw [← hfl, cnt_s (by omega), ← ha]; exact hstep.symm) (hrdV) (by rw [cnt_s (by omega), ← ha]; omega) (fun k hk => if h : k = i.toNat then (by rw [h, ← ha]; exact ⟨by omega, by rw [hbI]; omega⟩) else hall k (by omega)) (hfrV) _ _ I ls (lv_sub hl [2, 0] rfl)
            · skip
              have hbad : flt (ltx t L_) L_ (200 - i).toNat a (cnt (ltx t L_) i.toNat) = a := by
                refine flt_bad (by omega) (by omega) ?_
                first
                | (exfalso; omega)
                | exact hA1.elim (fun z => Or.inr (Or.inl ⟨by omega, by omega⟩)) (fun z => Or.inl (by unfold bItm; rw [if_pos (by omega)]; exact z))
                | exact Or.inl (by unfold bItm; rw [if_neg (by omega), if_pos (by omega)]; exact hA1)
                | exact Or.inl (by unfold bItm; rw [if_neg (by omega), if_neg (by omega)])
              refine lv_iload_n X.1 X.2.1 dX10_reads_79 rfl (lv_at hl 2 rfl) ?_
              exact rt_i X hr hlk I rfl (by first | exact ⟨by rw [← hfl, hbad], rfl, hfr, fun z => absurd z (by omega)⟩ | (exfalso; omega)) dX10_reads_80
  exact lp_28 (201) 0 0 (ua (ua (ua (us S.1 52 0) 11 0 3) 11 1 2) 11 2 1) (by omega) (by omega) (rfl) (rfl) (rdI_0) (by show 0 ≤ (0 : Int) ∧ (0 : Int) ≤ 8; omega) (fun k h => absurd h (by simp)) (fun c_ i h1 h2 => by rw [ua_nc (by omega), ua_nc (by omega), ua_nc (by omega), us_nc h2]) _ _ I ls (lv_sub hl [1, 0] rfl)

theorem ok_X10_write : yX10_write.cls ≠ "java/lang/invoke/MethodHandle" ∧ yX10_write.cls ≠ "java/lang/invoke/VarHandle" ∧ (parseMethodDescriptor yX10_write.desc).map (fun d => d.parameters.length) = some 1 := ⟨by decide +kernel, by decide +kernel, by decide +kernel⟩
abbrev po_X10_write (S : St)  (x : Int) : Int → St → Prop := fun r S1 => (¬ (32 ≤ x ∧ x ≤ 126) ∧ r = -1 ∧ S1 = S) ∨ ((32 ≤ x ∧ x ≤ 126) ∧ S.1 50 0 = 200 ∧ r = -3 ∧ S1 = S) ∨ ((32 ≤ x ∧ x ≤ 126) ∧ S.1 50 0 < 200 ∧ r = S.1 50 0 + 1 ∧ S1 = (us (ua S.1 1 (S.1 50 0) x) 50 (S.1 50 0 + 1), S.2))
abbrev rm_X10_write : Room := ({ frames := 0, cells := 0, slots := 0, locals := 0 } : Room)
set_option maxRecDepth 100000 in
set_option maxHeartbeats 4000000 in
theorem k_X10_write (l : Launch) (G : Ge) (S : St)  (x : Int)  (hx : -2147483648 ≤ x ∧ x < 2147483648) (ht : 0 ≤ S.1 50 0 ∧ S.1 50 0 ≤ 200) : Ki (KM G) l yX10_write cX10_write 2 .int rm_X10_write [.ref (G.2.2 0), .int (iI x)] S (po_X10_write S x) := by
  refine K_start (own := "NameSeekerModel") (by decide +kernel) rfl (Nat.le_of_ble_eq_true rfl) ?_
  intro p e s m args below meth c X hr hlk I ls hl
  have hl : lv_has ls 2 [(0, .ref (G.2.2 0)), (1, .int (iI x))] := hl
  refine lv_iload_n X.1 X.2.1 dX10_write_0 rfl (lv_at hl 1 rfl) ?_
  refine ri_push X (v := 32) (by decide) dX10_write_1 ?_
  refine rj_lt (tgt := 12) X (by omega) (by omega) dX10_write_3 (by decide) (fun c1 => ?_) (fun c1 => ?_)
  · skip
    refine ri_const X (v := (-1)) dX10_write_12 ?_
    exact rt_i X hr hlk I rfl (by exact Or.inl ⟨by omega, rfl, rfl⟩) dX10_write_13
  · skip
    refine lv_iload_n X.1 X.2.1 dX10_write_6 rfl (lv_at hl 1 rfl) ?_
    refine ri_push X (v := 126) (by decide) dX10_write_7 ?_
    refine rj_le (tgt := 14) X (by omega) (by omega) dX10_write_9 (by decide) (fun c2 => ?_) (fun c2 => ?_)
    · skip
      refine lv_aload_n X.1 X.2.1 dX10_write_14 rfl (lv_at hl 0 rfl) ?_
      refine gM_model_length X I (v := (S.1 50 0)) rfl tb_694 dX10_write_15 ?_
      refine ri_spush X (v := 200) (by decide) dX10_write_18 ?_
      refine rj_ne (tgt := 27) X (by omega) (by omega) dX10_write_21 (by decide) (fun c3 => ?_) (fun c3 => ?_)
      · skip
        refine lv_aload_n X.1 X.2.1 dX10_write_27 rfl (lv_at hl 0 rfl) ?_
        refine gM_model_text X I tb_695 dX10_write_28 ?_
        refine lv_aload_n X.1 X.2.1 dX10_write_31 rfl (lv_at hl 0 rfl) ?_
        refine gM_model_length X I (v := (S.1 50 0)) rfl tb_694 dX10_write_32 ?_
        refine lv_iload_n X.1 X.2.1 dX10_write_35 rfl (lv_at hl 1 rfl) ?_
        refine qM_text X I (by omega) dX10_write_36 (fun H locs I => ?_)
        have I : In (KM G) s s.heap H locs ((ua S.1 1 (S.1 50 0) x), S.2) := I
        refine lv_aload_n X.1 X.2.1 dX10_write_37 rfl (lv_at hl 0 rfl) ?_
        refine lv_dup X.1 X.2.1 dX10_write_38 rfl ?_
        refine gM_model_length X I (v := (S.1 50 0)) (by show (ua S.1 1 (S.1 50 0) x) 50 0 = _; rw [ua_nc (by decide)]) tb_694 dX10_write_39 ?_
        refine ri_const X (v := 1) dX10_write_42 ?_
        refine ri_add X (v := ((S.1 50 0) + 1)) rfl dX10_write_43 ?_
        refine pM_model_length X I tb_694 dX10_write_44 (fun H locs I => ?_)
        have I : In (KM G) s s.heap H locs ((us (ua S.1 1 (S.1 50 0) x) 50 ((S.1 50 0) + 1)), S.2) := I
        refine lv_aload_n X.1 X.2.1 dX10_write_47 rfl (lv_at hl 0 rfl) ?_
        refine gM_model_length X I (v := ((S.1 50 0) + 1)) (by show (us (ua S.1 1 (S.1 50 0) x) 50 ((S.1 50 0) + 1)) 50 0 = _; rw [us_eq]) tb_694 dX10_write_48 ?_
        exact rt_i X hr hlk I rfl (by exact Or.inr (Or.inr (⟨by omega, by omega, rfl, rfl⟩))) dX10_write_51
      · skip
        refine ri_push X (v := (-3)) (by decide) dX10_write_24 ?_
        exact rt_i X hr hlk I rfl (by exact Or.inr (Or.inl ⟨by omega, by omega, rfl, rfl⟩)) dX10_write_26
    · skip
      refine ri_const X (v := (-1)) dX10_write_12 ?_
      exact rt_i X hr hlk I rfl (by exact Or.inl ⟨by omega, rfl, rfl⟩) dX10_write_13

theorem ok_X10_wipe : yX10_wipe.cls ≠ "java/lang/invoke/MethodHandle" ∧ yX10_wipe.cls ≠ "java/lang/invoke/VarHandle" ∧ (parseMethodDescriptor yX10_wipe.desc).map (fun d => d.parameters.length) = some 0 := ⟨by decide +kernel, by decide +kernel, by decide +kernel⟩
abbrev po_X10_wipe (S : St)   : Int → St → Prop := fun r S1 => r = S.1 50 0 ∧ S1 = (us S.1 50 0, S.2)
abbrev rm_X10_wipe : Room := ({ frames := 0, cells := 0, slots := 0, locals := 0 } : Room)
set_option maxRecDepth 100000 in
set_option maxHeartbeats 4000000 in
theorem k_X10_wipe (l : Launch) (G : Ge) (S : St)     : Ki (KM G) l yX10_wipe cX10_wipe 2 .int rm_X10_wipe [.ref (G.2.2 0)] S (po_X10_wipe S) := by
  refine K_start (own := "NameSeekerModel") (by decide +kernel) rfl (Nat.le_of_ble_eq_true rfl) ?_
  intro p e s m args below meth c X hr hlk I ls hl
  have hl : lv_has ls 2 [(0, .ref (G.2.2 0))] := hl
  refine lv_aload_n X.1 X.2.1 dX10_wipe_0 rfl (lv_at hl 0 rfl) ?_
  refine gM_model_length X I (v := (S.1 50 0)) rfl tb_694 dX10_wipe_1 ?_
  refine lv_istore_n (lv' := [(1, .int (iI (S.1 50 0))), (0, .ref (G.2.2 0))]) X.1 X.2.1 dX10_wipe_4 rfl hl (by decide) rfl (fun ls hl => ?_)
  refine lv_aload_n X.1 X.2.1 dX10_wipe_5 rfl (lv_at hl 1 rfl) ?_
  refine ri_const X (v := 0) dX10_wipe_6 ?_
  refine pM_model_length X I tb_694 dX10_wipe_7 (fun H locs I => ?_)
  have I : In (KM G) s s.heap H locs ((us S.1 50 0), S.2) := I
  refine lv_iload_n X.1 X.2.1 dX10_wipe_10 rfl (lv_at hl 0 rfl) ?_
  exact rt_i X hr hlk I rfl (by exact ⟨rfl, rfl⟩) dX10_wipe_11

theorem ok_X10_fault : yX10_fault.cls ≠ "java/lang/invoke/MethodHandle" ∧ yX10_fault.cls ≠ "java/lang/invoke/VarHandle" ∧ (parseMethodDescriptor yX10_fault.desc).map (fun d => d.parameters.length) = some 0 := ⟨by decide +kernel, by decide +kernel, by decide +kernel⟩
abbrev po_X10_fault (S : St)  (t : Int → Int) (L_ : Int) : Int → St → Prop := fun r S1 => r = flt (ltx t L_) L_ 200 0 0 ∧ S1.2 = S.2 ∧ (∀ (c_ : Nat) (i : Int), ¬ (8 ≤ c_ ∧ c_ ≤ 11) → ¬ c_ = 52 → S1.1 c_ i = S.1 c_ i)
abbrev rm_X10_fault : Room := ({ frames := 4, cells := 0, slots := 0, locals := 88 } : Room)
set_option maxRecDepth 100000 in
set_option maxHeartbeats 4000000 in
theorem k_X10_fault (l : Launch) (G : Ge) (S : St)  (t : Int → Int) (L_ : Int) (e_t : ∀ i : Int, S.1 1 i = t i) (e_L_ : S.1 50 0 = L_) (ht : 0 ≤ L_ ∧ L_ ≤ 200) (hc : ∀ i : Int, 0 ≤ i → i < L_ → 32 ≤ t i ∧ t i ≤ 126) : Ki (KM G) l yX10_fault cX10_fault 1 .int rm_X10_fault [.ref (G.2.2 0)] S (po_X10_fault S t L_) := by
  refine K_start (own := "NameSeekerModel") (by decide +kernel) rfl (Nat.le_of_ble_eq_true rfl) ?_
  intro p e s m args below meth c X hr hlk I ls hl
  have hl : lv_has ls 1 [(0, .ref (G.2.2 0))] := hl
  refine lv_aload_n X.1 X.2.1 dX10_fault_0 rfl (lv_at hl 0 rfl) ?_
  refine cl_i I (runV (As := []) (rest := []) X (k_X10_reads l G S  (t) L_ (fun i_ => (e_t i_)) e_L_ ht hc) (gdC tb_830 (gdC tb_832 (gdC tb_13 (gdC tb_48 (gdC tb_833 gdB))))) ⟨ok_X10_reads, ⟨Nat.le_of_ble_eq_true rfl, Nat.le_of_ble_eq_true rfl⟩, rfl, rfl⟩ (PreV.of (C := RX10) (T := TX10) (N := 41) I (atM_model) rfl) rfl hl.1 rfl (Nat.le_of_ble_eq_true rfl) dX10_fault_1 ⟨Nat.zero_le _, Nat.zero_le _⟩) (fun r1 S2 H locs q3 I => ?_)
  obtain ⟨hA1, hA2, hAf, hAp⟩ := q3
  obtain ⟨V1, V2⟩ := S2
  dsimp only at hA2 hAf hAp
  subst hA2
  rw [hA1] at hAp
  rw [hA1]
  have hff := flt_b (f := ltx t L_) (len := L_) (by omega) (fun x => ltx_b ht x) 200 0 0 (by omega)
  exact rt_i X hr hlk I rfl (by exact ⟨rfl, rfl, hAf⟩) dX10_fault_4
