/-- one stands ahead of another: scores, picks, sizes, numbers -/
abbrev ahd (s1 s2 p1 p2 z1 z2 x u : Int) : Prop := (¬ s1 = s2 ∧ s2 < s1) ∨ (s1 = s2 ∧ ((¬ p1 = p2 ∧ p2 < p1) ∨ (p1 = p2 ∧ ((¬ z1 = z2 ∧ z1 < z2) ∨ (z1 = z2 ∧ x < u)))))
abbrev ahS (F : Nat → Int → Int) (P : Nat → Nat) (x u : Int) : Prop := ahd (F 15 x) (F 15 u) (F 5 ((P x.toNat : Nat) : Int)) (F 5 ((P u.toNat : Nat) : Int)) (F 2 ((P x.toNat : Nat) : Int)) (F 2 ((P u.toNat : Nat) : Int)) x u
/-- x came into the row of numbers at its place -/
def insP (S S1 : St) (x sz : Int) : Prop := ∃ p : Int, (0 ≤ p ∧ p ≤ sz) ∧ S1.2 = S.2 ∧ S1.1 64 0 = sz + 1 ∧ (∀ (c_ : Nat) (i : Int), ¬ c_ = 29 → ¬ c_ = 64 → S1.1 c_ i = S.1 c_ i) ∧ (∀ i : Int, 0 ≤ i → i < p → S1.1 29 i = S.1 29 i) ∧ S1.1 29 p = x ∧ (∀ i : Int, p < i → i ≤ sz → S1.1 29 i = S.1 29 (i - 1)) ∧ (∀ i : Int, p ≤ i → i < sz → ahS S.1 S.2 x (S.1 29 i)) ∧ (p = 0 ∨ ¬ ahS S.1 S.2 x (S.1 29 (p - 1)))
/-- the row of numbers holds those below n that have a score, each once, in order -/
def rkI (F : Nat → Int → Int) (P : Nat → Nat) (n : Int) : Prop := 0 ≤ F 64 0 ∧ F 64 0 ≤ n ∧ (∀ i : Int, 0 ≤ i → i < F 64 0 → 0 ≤ F 29 i ∧ F 29 i < n ∧ ¬ F 15 (F 29 i) = -4) ∧ (∀ i j : Int, 0 ≤ i → i < j → j < F 64 0 → ahS F P (F 29 i) (F 29 j)) ∧ (∀ m : Int, 0 ≤ m → m < n → ¬ F 15 m = -4 → ∃ i : Int, 0 ≤ i ∧ i < F 64 0 ∧ F 29 i = m)
theorem rkI_0 {F : Nat → Int → Int} {P : Nat → Nat} : rkI (us F 64 0) P 0 := by
  refine ⟨by rw [us_eq]; omega, by rw [us_eq]; omega, fun i h1 h2 => ?_, fun i j h1 h2 h3 => ?_, fun m h1 h2 => absurd h2 (by omega)⟩
  · rw [us_eq] at h2; exact absurd h2 (by omega)
  · rw [us_eq] at h3; exact absurd h3 (by omega)
theorem rkI_no {F : Nat → Int → Int} {P : Nat → Nat} {n : Int} (h : rkI F P n) (hs : F 15 n = -4) : rkI F P (n + 1) := by
  obtain ⟨h1, h2, h3, h4, h5⟩ := h
  refine ⟨h1, by omega, fun i a b => ?_, h4, fun m a b q => ?_⟩
  · have := h3 i a b
    exact ⟨this.1, by omega, this.2.2⟩
  · by_cases hm : m = n
    · rw [hm] at q; exact absurd hs q
    · exact h5 m a (by omega) q
theorem ahd_tr {s1 s2 s3 p1 p2 p3 z1 z2 z3 x u v : Int} (h1 : ahd s1 s2 p1 p2 z1 z2 x u) (h2 : ahd s2 s3 p2 p3 z2 z3 u v) : ahd s1 s3 p1 p3 z1 z3 x v := by
  rcases h1 with a | ⟨a, b | ⟨b, d | ⟨d, f⟩⟩⟩ <;> rcases h2 with a' | ⟨a', b' | ⟨b', d' | ⟨d', f'⟩⟩⟩ <;> first
    | exact Or.inl ⟨by omega, by omega⟩
    | exact Or.inr ⟨by omega, Or.inl ⟨by omega, by omega⟩⟩
    | exact Or.inr ⟨by omega, Or.inr ⟨by omega, Or.inl ⟨by omega, by omega⟩⟩⟩
    | exact Or.inr ⟨by omega, Or.inr ⟨by omega, Or.inr ⟨by omega, by omega⟩⟩⟩
theorem ahd_tot {s1 s2 p1 p2 z1 z2 x u : Int} (h : ¬ ahd s1 s2 p1 p2 z1 z2 x u) (hx : ¬ x = u) : ahd s2 s1 p2 p1 z2 z1 u x := by
  unfold ahd at *
  omega
theorem ahd_irr {s1 s2 p1 p2 z1 z2 x u : Int} (h : ahd s1 s2 p1 p2 z1 z2 x u) : ¬ ahd s2 s1 p2 p1 z2 z1 u x := by
  unfold ahd at *
  omega
theorem rkI_yes {U V : Nat → Int → Int} {P : Nat → Nat} {n : Int} (h : rkI U P n) (hn : 0 ≤ n) (hs : ¬ U 15 n = -4) (hi : insP (U, P) (V, P) n (U 64 0)) : rkI V P (n + 1) := by
  obtain ⟨h1, h2, h3, h4, h5⟩ := h
  obtain ⟨p, hp, -, hz, hf, ha, hb, hc, hd, he⟩ := hi
  dsimp only at hz hf ha hb hc hd he
  have eA : ∀ x u : Int, ahS V P x u ↔ ahS U P x u := fun x u => by
    unfold ahS
    rw [hf 15 x (by decide) (by decide), hf 15 u (by decide) (by decide), hf 5 _ (by decide) (by decide), hf 5 _ (by decide) (by decide), hf 2 _ (by decide) (by decide), hf 2 _ (by decide) (by decide)]
  have lt : ∀ i : Int, 0 ≤ i → i < U 64 0 → ¬ U 29 i = n := fun i a b => by have := (h3 i a b).2.1; omega
  have up : ∀ i : Int, 0 ≤ i → i < p → ahS U P (U 29 i) n := fun i a b => by
    rcases he with he | he
    · omega
    · have t := ahd_tot he (fun q => lt (p - 1) (by omega) (by omega) q.symm)
      by_cases hpi : i = p - 1
      · rw [hpi]; exact t
      · exact ahd_tr (h4 i (p - 1) a (by omega) (by omega)) t
  refine ⟨by omega, by omega, fun i a b => ?_, fun i j a b q => ?_, fun m a b q => ?_⟩
  · rw [hf 15 _ (by decide) (by decide)]
    rcases Int.lt_trichotomy i p with z | z | z
    · rw [ha i a z]; have := h3 i a (by omega); exact ⟨this.1, by omega, this.2.2⟩
    · rw [z, hb]; exact ⟨hn, by omega, hs⟩
    · rw [hc i z (by omega)]; have := h3 (i - 1) (by omega) (by omega); exact ⟨this.1, by omega, this.2.2⟩
  · rw [eA]
    rcases Int.lt_trichotomy i p with z | z | z <;> rcases Int.lt_trichotomy j p with y | y | y
    · rw [ha i a z, ha j (by omega) y]; exact h4 i j a b (by omega)
    · rw [ha i a z, y, hb]; exact up i a z
    · rw [ha i a z, hc j y (by omega)]
      by_cases hij : i = j - 1
      · omega
      · exact h4 i (j - 1) a (by omega) (by omega)
    · omega
    · omega
    · rw [z, hb, hc j y (by omega)]; exact hd (j - 1) (by omega) (by omega)
    · omega
    · omega
    · rw [hc i z (by omega), hc j y (by omega)]; exact h4 (i - 1) (j - 1) (by omega) (by omega) (by omega)
  · rw [hf 15 _ (by decide) (by decide)] at q
    by_cases hm : m = n
    · exact ⟨p, by omega, by omega, by rw [hb, hm]⟩
    · obtain ⟨i, i1, i2, i3⟩ := h5 m a (by omega) q
      by_cases hpi : i < p
      · exact ⟨i, i1, by omega, by rw [ha i i1 hpi]; exact i3⟩
      · exact ⟨i + 1, by omega, by omega, by rw [hc (i + 1) (by omega) (by omega), show i + 1 - 1 = i by omega]; exact i3⟩
/-- x would be the first -/
def fstP (F : Nat → Int → Int) (P : Nat → Nat) (ln x : Int) : Prop := ¬ F 15 x = -4 ∧ ∀ i : Int, 0 ≤ i → i < ln → ¬ i = x → ¬ F 15 i = -4 → ¬ ahS F P i x

theorem ok_X5_isAhead : yX5_isAhead.cls ≠ "java/lang/invoke/MethodHandle" ∧ yX5_isAhead.cls ≠ "java/lang/invoke/VarHandle" ∧ (parseMethodDescriptor yX5_isAhead.desc).map (fun d => d.parameters.length) = some 3 := ⟨by decide +kernel, by decide +kernel, by decide +kernel⟩
abbrev po_X5_isAhead (S : St)  (x : Int) (u : Int) (s1 : Int) (s2 : Int) (p1 : Int) (p2 : Int) (z1 : Int) (z2 : Int) : Int → St → Prop := fun r S1 => r = bI (ahd s1 s2 p1 p2 z1 z2 x u) ∧ S1 = S
abbrev rm_X5_isAhead : Room := ({ frames := 0, cells := 0, slots := 0, locals := 0 } : Room)
set_option maxRecDepth 100000 in
set_option maxHeartbeats 4000000 in
theorem k_X5_isAhead (l : Launch) (G : Ge) (S : St)  (x : Int) (u : Int) (s1 : Int) (s2 : Int) (p1 : Int) (p2 : Int) (z1 : Int) (z2 : Int) (e_s1 : S.1 15 x = s1) (e_s2 : S.1 15 u = s2) (e_p1 : S.1 5 (((S.2 x.toNat) : Nat) : Int) = p1) (e_p2 : S.1 5 (((S.2 u.toNat) : Nat) : Int) = p2) (e_z1 : S.1 2 (((S.2 x.toNat) : Nat) : Int) = z1) (e_z2 : S.1 2 (((S.2 u.toNat) : Nat) : Int) = z2) (hx : 0 ≤ x ∧ x < 8) (hu : 0 ≤ u ∧ u < 8) (hpx : S.2 x.toNat < 8) (hpu : S.2 u.toNat < 8) (hr1 : (-1000 ≤ s1 ∧ s1 ≤ 1000) ∧ (-1000 ≤ s2 ∧ s2 ≤ 1000) ∧ (0 ≤ p1 ∧ p1 ≤ 100000) ∧ (0 ≤ p2 ∧ p2 ≤ 100000) ∧ (0 ≤ z1 ∧ z1 ≤ 12) ∧ (0 ≤ z2 ∧ z2 ≤ 12)) : Ki (KC G) l yX5_isAhead cX5_isAhead 6 .boolean rm_X5_isAhead [.ref (G.2.2 38), .ref (G.2.2 3), .int (iI x), .int (iI u)] S (po_X5_isAhead S x u s1 s2 p1 p2 z1 z2) := by
  refine K_start (own := "NameSeeker$Ranking") (by decide +kernel) rfl (Nat.le_of_ble_eq_true rfl) ?_
  intro p e s m args below meth c X hr hlk I ls hl
  have hl : lv_has ls 6 [(0, .ref (G.2.2 38)), (1, .ref (G.2.2 3)), (2, .int (iI x)), (3, .int (iI u))] := hl
  refine lv_aload_n X.1 X.2.1 dX5_isAhead_0 rfl (lv_at hl 0 rfl) ?_
  refine gC_ranking_scores X I tb_221 dX5_isAhead_1 ?_
  refine lv_iload_n X.1 X.2.1 dX5_isAhead_4 rfl (lv_at hl 2 rfl) ?_
  refine aC_rscores X I (v := s1) e_s1 (by omega) dX5_isAhead_5 ?_
  refine lv_aload_n X.1 X.2.1 dX5_isAhead_6 rfl (lv_at hl 0 rfl) ?_
  refine gC_ranking_scores X I tb_221 dX5_isAhead_7 ?_
  refine lv_iload_n X.1 X.2.1 dX5_isAhead_10 rfl (lv_at hl 3 rfl) ?_
  refine aC_rscores X I (v := s2) e_s2 (by omega) dX5_isAhead_11 ?_
  refine rj_eq (tgt := 36) X (by omega) (by omega) dX5_isAhead_12 (by decide) (fun c1 => ?_) (fun c1 => ?_)
  · skip
    refine lv_aload_n X.1 X.2.1 dX5_isAhead_36 rfl (lv_at hl 1 rfl) ?_
    refine gC_lot_names X I tb_98 dX5_isAhead_37 ?_
    refine lv_iload_n X.1 X.2.1 dX5_isAhead_40 rfl (lv_at hl 2 rfl) ?_
    refine aC_names X I (by omega) dX5_isAhead_41 ?_
    refine lv_astore (lv' := [(4, .ref (G.2.2 (41 + 2 * S.2 x.toNat))), (0, .ref (G.2.2 38)), (1, .ref (G.2.2 3)), (2, .int (iI x)), (3, .int (iI u))]) X.1 X.2.1 dX5_isAhead_42 hl (by decide) rfl (fun ls hl => ?_)
    refine lv_aload_n X.1 X.2.1 dX5_isAhead_44 rfl (lv_at hl 2 rfl) ?_
    refine gC_lot_names X I tb_98 dX5_isAhead_45 ?_
    refine lv_iload_n X.1 X.2.1 dX5_isAhead_48 rfl (lv_at hl 4 rfl) ?_
    refine aC_names X I (by omega) dX5_isAhead_49 ?_
    refine lv_astore (lv' := [(5, .ref (G.2.2 (41 + 2 * S.2 u.toNat))), (4, .ref (G.2.2 (41 + 2 * S.2 x.toNat))), (0, .ref (G.2.2 38)), (1, .ref (G.2.2 3)), (2, .int (iI x)), (3, .int (iI u))]) X.1 X.2.1 dX5_isAhead_50 hl (by decide) rfl (fun ls hl => ?_)
    refine lv_aload X.1 X.2.1 dX5_isAhead_52 (lv_at hl 1 rfl) ?_
    refine gC_name_picked X I (j := (S.2 x.toNat)) hpx (v := p1) e_p1 tb_76 dX5_isAhead_54 ?_
    refine lv_aload X.1 X.2.1 dX5_isAhead_57 (lv_at hl 0 rfl) ?_
    refine gC_name_picked X I (j := (S.2 u.toNat)) hpu (v := p2) e_p2 tb_76 dX5_isAhead_59 ?_
    refine rj_eq (tgt := 84) X (by omega) (by omega) dX5_isAhead_62 (by decide) (fun c2 => ?_) (fun c2 => ?_)
    · skip
      refine lv_aload X.1 X.2.1 dX5_isAhead_84 (lv_at hl 1 rfl) ?_
      refine gC_name_size X I (j := (S.2 x.toNat)) hpx (v := z1) e_z1 tb_68 dX5_isAhead_86 ?_
      refine lv_aload X.1 X.2.1 dX5_isAhead_89 (lv_at hl 0 rfl) ?_
      refine gC_name_size X I (j := (S.2 u.toNat)) hpu (v := z2) e_z2 tb_68 dX5_isAhead_91 ?_
      refine rj_eq (tgt := 118) X (by omega) (by omega) dX5_isAhead_94 (by decide) (fun c3 => ?_) (fun c3 => ?_)
      · skip
        refine lv_iload_n X.1 X.2.1 dX5_isAhead_118 rfl (lv_at hl 4 rfl) ?_
        refine lv_iload_n X.1 X.2.1 dX5_isAhead_119 rfl (lv_at hl 5 rfl) ?_
        refine rj_ge (tgt := 127) X (by omega) (by omega) dX5_isAhead_120 (by decide) (fun c4 => ?_) (fun c4 => ?_)
        · skip
          refine ri_const X (v := 0) dX5_isAhead_127 ?_
          exact rt_i X hr hlk I (by rfl) (by refine ⟨(bI_f ?_).symm, rfl⟩; unfold ahd; omega) dX5_isAhead_128
        · skip
          refine ri_const X (v := 1) dX5_isAhead_123 ?_
          refine lv_goto (tgt := 128) X.1 X.2.1 dX5_isAhead_124 (by decide) ?_
          exact rt_i X hr hlk I (by rfl) (by refine ⟨(bI_t ?_).symm, rfl⟩; unfold ahd; omega) dX5_isAhead_128
      · skip
        refine lv_aload X.1 X.2.1 dX5_isAhead_97 (lv_at hl 1 rfl) ?_
        refine gC_name_size X I (j := (S.2 x.toNat)) hpx (v := z1) e_z1 tb_68 dX5_isAhead_99 ?_
        refine lv_aload X.1 X.2.1 dX5_isAhead_102 (lv_at hl 0 rfl) ?_
        refine gC_name_size X I (j := (S.2 u.toNat)) hpu (v := z2) e_z2 tb_68 dX5_isAhead_104 ?_
        refine rj_ge (tgt := 114) X (by omega) (by omega) dX5_isAhead_107 (by decide) (fun c5 => ?_) (fun c5 => ?_)
        · skip
          refine ri_const X (v := 0) dX5_isAhead_114 ?_
          refine lv_goto (tgt := 128) X.1 X.2.1 dX5_isAhead_115 (by decide) ?_
          exact rt_i X hr hlk I (by rfl) (by refine ⟨(bI_f ?_).symm, rfl⟩; unfold ahd; omega) dX5_isAhead_128
        · skip
          refine ri_const X (v := 1) dX5_isAhead_110 ?_
          refine lv_goto (tgt := 128) X.1 X.2.1 dX5_isAhead_111 (by decide) ?_
          exact rt_i X hr hlk I (by rfl) (by refine ⟨(bI_t ?_).symm, rfl⟩; unfold ahd; omega) dX5_isAhead_128
    · skip
      refine lv_aload X.1 X.2.1 dX5_isAhead_65 (lv_at hl 1 rfl) ?_
      refine gC_name_picked X I (j := (S.2 x.toNat)) hpx (v := p1) e_p1 tb_76 dX5_isAhead_67 ?_
      refine lv_aload X.1 X.2.1 dX5_isAhead_70 (lv_at hl 0 rfl) ?_
      refine gC_name_picked X I (j := (S.2 u.toNat)) hpu (v := p2) e_p2 tb_76 dX5_isAhead_72 ?_
      refine rj_le (tgt := 82) X (by omega) (by omega) dX5_isAhead_75 (by decide) (fun c6 => ?_) (fun c6 => ?_)
      · skip
        refine ri_const X (v := 0) dX5_isAhead_82 ?_
        exact rt_i X hr hlk I (by rfl) (by refine ⟨(bI_f ?_).symm, rfl⟩; unfold ahd; omega) dX5_isAhead_83
      · skip
        refine ri_const X (v := 1) dX5_isAhead_78 ?_
        refine lv_goto (tgt := 83) X.1 X.2.1 dX5_isAhead_79 (by decide) ?_
        exact rt_i X hr hlk I (by rfl) (by refine ⟨(bI_t ?_).symm, rfl⟩; unfold ahd; omega) dX5_isAhead_83
  · skip
    refine lv_aload_n X.1 X.2.1 dX5_isAhead_15 rfl (lv_at hl 0 rfl) ?_
    refine gC_ranking_scores X I tb_221 dX5_isAhead_16 ?_
    refine lv_iload_n X.1 X.2.1 dX5_isAhead_19 rfl (lv_at hl 2 rfl) ?_
    refine aC_rscores X I (v := s1) e_s1 (by omega) dX5_isAhead_20 ?_
    refine lv_aload_n X.1 X.2.1 dX5_isAhead_21 rfl (lv_at hl 0 rfl) ?_
    refine gC_ranking_scores X I tb_221 dX5_isAhead_22 ?_
    refine lv_iload_n X.1 X.2.1 dX5_isAhead_25 rfl (lv_at hl 3 rfl) ?_
    refine aC_rscores X I (v := s2) e_s2 (by omega) dX5_isAhead_26 ?_
    refine rj_le (tgt := 34) X (by omega) (by omega) dX5_isAhead_27 (by decide) (fun c7 => ?_) (fun c7 => ?_)
    · skip
      refine ri_const X (v := 0) dX5_isAhead_34 ?_
      exact rt_i X hr hlk I (by rfl) (by refine ⟨(bI_f ?_).symm, rfl⟩; unfold ahd; omega) dX5_isAhead_35
    · skip
      refine ri_const X (v := 1) dX5_isAhead_30 ?_
      refine lv_goto (tgt := 35) X.1 X.2.1 dX5_isAhead_31 (by decide) ?_
      exact rt_i X hr hlk I (by rfl) (by refine ⟨(bI_t ?_).symm, rfl⟩; unfold ahd; omega) dX5_isAhead_35

theorem ok_X5_insert : yX5_insert.cls ≠ "java/lang/invoke/MethodHandle" ∧ yX5_insert.cls ≠ "java/lang/invoke/VarHandle" ∧ (parseMethodDescriptor yX5_insert.desc).map (fun d => d.parameters.length) = some 2 := ⟨by decide +kernel, by decide +kernel, by decide +kernel⟩
abbrev po_X5_insert (S : St)  (x : Int) (ln : Int) (sz : Int) : St → Prop := fun S1 => insP S S1 x sz
abbrev rm_X5_insert : Room := ({ frames := 1, cells := 0, slots := 0, locals := 25 } : Room)
set_option maxRecDepth 100000 in
set_option maxHeartbeats 4000000 in
theorem k_X5_insert (l : Launch) (G : Ge) (S : St)  (x : Int) (ln : Int) (sz : Int) (e_ln : S.1 51 0 = ln) (e_sz : S.1 64 0 = sz) (hln : 0 ≤ ln ∧ ln ≤ 8) (hsz : 0 ≤ sz ∧ sz < 8) (hx : 0 ≤ x ∧ x < ln) (hrg : ∀ i : Int, 0 ≤ i → i < ln → S.2 i.toNat < 8 ∧ (-1000 ≤ S.1 15 i ∧ S.1 15 i ≤ 1000) ∧ (0 ≤ S.1 5 ((S.2 i.toNat : Nat) : Int) ∧ S.1 5 ((S.2 i.toNat : Nat) : Int) ≤ 100000) ∧ (0 ≤ S.1 2 ((S.2 i.toNat : Nat) : Int) ∧ S.1 2 ((S.2 i.toNat : Nat) : Int) ≤ 12)) (hNr : ∀ i : Int, 0 ≤ i → i < sz → 0 ≤ S.1 29 i ∧ S.1 29 i < ln) : Kv (KC G) l yX5_insert cX5_insert 4 rm_X5_insert [.ref (G.2.2 38), .ref (G.2.2 3), .int (iI x)] S (po_X5_insert S x ln sz) := by
  refine K_start (own := "NameSeeker$Ranking") (by decide +kernel) rfl (Nat.le_of_ble_eq_true rfl) ?_
  intro p e s m args below meth c X hr hlk I ls hl
  have hl : lv_has ls 4 [(0, .ref (G.2.2 38)), (1, .ref (G.2.2 3)), (2, .int (iI x))] := hl
  refine lv_aload_n X.1 X.2.1 dX5_insert_0 rfl (lv_at hl 0 rfl) ?_
  refine gC_ranking_size X I (v := sz) e_sz tb_225 dX5_insert_1 ?_
  refine lv_istore_n (lv' := [(3, .int (iI sz)), (0, .ref (G.2.2 38)), (1, .ref (G.2.2 3)), (2, .int (iI x))]) X.1 X.2.1 dX5_insert_4 rfl hl (by decide) rfl (fun ls hl => ?_)
  have lp_5 : ∀ (fu_ : Nat) (k : Int) (U : Nat → Int → Int), k.toNat < fu_ → ∀ (hk : 0 ≤ k ∧ k ≤ sz) (hfr : ∀ (c_ : Nat) (i : Int), ¬ c_ = 29 → ¬ c_ = 64 → U c_ i = S.1 c_ i) (h64 : U 64 0 = sz) (hN : ∀ i : Int, 0 ≤ i → i < k → U 29 i = S.1 29 i) (hM : ∀ i : Int, k < i → i ≤ sz → U 29 i = S.1 29 (i - 1)) (hA : ∀ i : Int, k ≤ i → i < sz → ahS S.1 S.2 x (S.1 29 i)) (H : Heap) (locs : List Loc), In (KC G) s s.heap H locs (U, S.2) → ∀ ls : Array Slot, lv_has ls 4 [(0, .ref (G.2.2 38)), (1, .ref (G.2.2 3)), (2, .int (iI x)), (3, .int (iI k))] → W p l e rm_X5_insert s m args below meth c H locs 0 0 (MQ below (QV (KC G) (po_X5_insert S x ln sz)) args s 0 0 (KC G).2.2.2) (F0 m 5 ls []) := by
    intro fu_
    induction fu_ with
    | zero => intro k U hm; exact absurd hm (by omega)
    | succ fu_ ih_5 =>
      intro k U hm_5 hk hfr h64 hN hM hA H locs I ls hl
      refine lv_iload_n X.1 X.2.1 dX5_insert_5 rfl (lv_at hl 3 rfl) ?_
      refine rz_le (tgt := 46) X (by omega) dX5_insert_6 (by decide) (fun c1 => ?_) (fun c1 => ?_)
      · skip
        refine lv_aload_n X.1 X.2.1 dX5_insert_46 rfl (lv_at hl 0 rfl) ?_
        refine gC_ranking_numbers X I tb_223 dX5_insert_47 ?_
        refine lv_iload_n X.1 X.2.1 dX5_insert_50 rfl (lv_at hl 3 rfl) ?_
        refine lv_iload_n X.1 X.2.1 dX5_insert_51 rfl (lv_at hl 2 rfl) ?_
        refine qC_numbers X I (by omega) dX5_insert_52 (fun H locs I => ?_)
        have I : In (KC G) s s.heap H locs ((ua U 29 k x), S.2) := I
        refine lv_aload_n X.1 X.2.1 dX5_insert_53 rfl (lv_at hl 0 rfl) ?_
        refine lv_dup X.1 X.2.1 dX5_insert_54 rfl ?_
        refine gC_ranking_size X I (v := sz) (by (try dsimp only); rw [ua_nc (by decide)]; exact h64) tb_225 dX5_insert_55 ?_
        refine ri_const X (v := 1) dX5_insert_58 ?_
        refine ri_add X (v := (sz + 1)) rfl dX5_insert_59 ?_
        refine pC_ranking_size X I tb_225 dX5_insert_60 (fun H locs I => ?_)
        have I : In (KC G) s s.heap H locs ((us (ua U 29 k x) 64 (sz + 1)), S.2) := I
        exact rt_v X hr hlk I (by exact ⟨k, by omega, rfl, by show us (ua U 29 k x) 64 (sz + 1) 64 0 = _; exact us_eq, fun c_ i h1 h2 => (us_nc h2).trans ((ua_nc h1).trans (hfr c_ i h1 h2)), fun i h1 h2 => by show us (ua U 29 k x) 64 (sz + 1) 29 i = _; rw [us_nc (by decide), ua_ni (by omega)]; exact hN i h1 h2, by show us (ua U 29 k x) 64 (sz + 1) 29 k = _; rw [us_nc (by decide), ua_eq], fun i h1 h2 => by show us (ua U 29 k x) 64 (sz + 1) 29 i = _; rw [us_nc (by decide), ua_ni (by omega)]; exact hM i h1 h2, hA, by first | exact Or.inl (by omega) | exact Or.inr (by assumption)⟩) dX5_insert_63
      · skip
        have hrx := hrg x (by omega) (by omega)
        have hNk := hNr (k - 1) (by omega) (by omega)
        have hrk := hrg (S.1 29 (k - 1)) (by omega) (by omega)
        refine lv_aload_n X.1 X.2.1 dX5_insert_9 rfl (lv_at hl 0 rfl) ?_
        refine lv_aload_n X.1 X.2.1 dX5_insert_10 rfl (lv_at hl 1 rfl) ?_
        refine lv_iload_n X.1 X.2.1 dX5_insert_11 rfl (lv_at hl 2 rfl) ?_
        refine lv_aload_n X.1 X.2.1 dX5_insert_12 rfl (lv_at hl 0 rfl) ?_
        refine gC_ranking_numbers X I tb_223 dX5_insert_13 ?_
        refine lv_iload_n X.1 X.2.1 dX5_insert_16 rfl (lv_at hl 3 rfl) ?_
        refine ri_const X (v := 1) dX5_insert_17 ?_
        refine ri_sub X (v := (k - 1)) rfl dX5_insert_18 ?_
        refine aC_numbers X I (v := (S.1 29 (k - 1))) (hN (k - 1) (by omega) (by omega)) (by omega) dX5_insert_19 ?_
        refine cl_i I (runV (As := [.ref (G.2.2 3), .int (iI x), .int (iI (S.1 29 (k - 1)))]) (rest := []) X (k_X5_isAhead l G (U, S.2)  x (S.1 29 (k - 1)) (S.1 15 x) (S.1 15 (S.1 29 (k - 1))) (S.1 5 (((S.2 x.toNat) : Nat) : Int)) (S.1 5 (((S.2 (S.1 29 (k - 1)).toNat) : Nat) : Int)) (S.1 2 (((S.2 x.toNat) : Nat) : Int)) (S.1 2 (((S.2 (S.1 29 (k - 1)).toNat) : Nat) : Int)) (hfr 15 x (by decide) (by decide)) (hfr 15 (S.1 29 (k - 1)) (by decide) (by decide)) (hfr 5 (((S.2 x.toNat) : Nat) : Int) (by decide) (by decide)) (hfr 5 (((S.2 (S.1 29 (k - 1)).toNat) : Nat) : Int) (by decide) (by decide)) (hfr 2 (((S.2 x.toNat) : Nat) : Int) (by decide) (by decide)) (hfr 2 (((S.2 (S.1 29 (k - 1)).toNat) : Nat) : Int) (by decide) (by decide)) (by omega) (by omega) hrx.1 hrk.1 (by omega)) (gdC tb_625 (gdC tb_627 (gdC tb_11 (gdC tb_23 (gdC tb_628 gdB))))) ⟨ok_X5_isAhead, ⟨Nat.le_of_ble_eq_true rfl, Nat.le_of_ble_eq_true rfl⟩, rfl, rfl⟩ (PreV.of (C := RX5) (T := TX5) (N := 3) I (atC_ranking) rfl) rfl hl.1 rfl (Nat.le_of_ble_eq_true rfl) dX5_insert_20 ⟨Nat.zero_le _, Nat.zero_le _⟩) (fun r2 S3 H locs q4 I => ?_)
        obtain ⟨e1_, e2_⟩ := q4
        rw [e2_] at I
        rw [e1_]
        clear e1_ e2_
        rcases Decidable.em (ahd (S.1 15 x) (S.1 15 (S.1 29 (k - 1))) (S.1 5 (((S.2 x.toNat) : Nat) : Int)) (S.1 5 (((S.2 (S.1 29 (k - 1)).toNat) : Nat) : Int)) (S.1 2 (((S.2 x.toNat) : Nat) : Int)) (S.1 2 (((S.2 (S.1 29 (k - 1)).toNat) : Nat) : Int)) x (S.1 29 (k - 1))) with b5 | b5
        · rw [bI_t b5]
          refine rz_eq (tgt := 46) X (by omega) dX5_insert_23 (by decide) (fun c6 => absurd c6 (by decide)) (fun _ => ?_)
          refine lv_aload_n X.1 X.2.1 dX5_insert_26 rfl (lv_at hl 0 rfl) ?_
          refine gC_ranking_numbers X I tb_223 dX5_insert_27 ?_
          refine lv_iload_n X.1 X.2.1 dX5_insert_30 rfl (lv_at hl 3 rfl) ?_
          refine lv_aload_n X.1 X.2.1 dX5_insert_31 rfl (lv_at hl 0 rfl) ?_
          refine gC_ranking_numbers X I tb_223 dX5_insert_32 ?_
          refine lv_iload_n X.1 X.2.1 dX5_insert_35 rfl (lv_at hl 3 rfl) ?_
          refine ri_const X (v := 1) dX5_insert_36 ?_
          refine ri_sub X (v := (k - 1)) rfl dX5_insert_37 ?_
          refine aC_numbers X I (v := (S.1 29 (k - 1))) (hN (k - 1) (by omega) (by omega)) (by omega) dX5_insert_38 ?_
          refine qC_numbers X I (by omega) dX5_insert_39 (fun H locs I => ?_)
          have I : In (KC G) s s.heap H locs ((ua U 29 k (S.1 29 (k - 1))), S.2) := I
          refine ri_iinc X (k := 3) (v := (k + (-1))) (lv' := [(3, .int (iI (k + (-1)))), (0, .ref (G.2.2 38)), (1, .ref (G.2.2 3)), (2, .int (iI x))]) rfl dX5_insert_40 hl rfl (by decide) rfl (fun ls hl => ?_)
          refine lv_goto (tgt := 5) X.1 X.2.1 dX5_insert_43 (by decide) ?_
          exact ih_5 (k + (-1)) (ua U 29 k (S.1 29 (k - 1))) (by omega) (by omega) (fun c_ i h1 h2 => (ua_nc h1).trans (hfr c_ i h1 h2)) ((ua_nc (by decide)).trans h64) (fun i h1 h2 => (ua_ni (by omega)).trans (hN i h1 (by omega))) (fun i h1 h2 => if hi : i = k then (by rw [hi]; exact ua_eq) else (by rw [ua_ni hi]; exact hM i (by omega) h2)) (fun i h1 h2 => if hi : k ≤ i then hA i hi h2 else (by rw [show i = k - 1 by omega]; assumption)) _ _ I ls (lv_sub hl [1, 2, 3, 0] rfl)
        · rw [bI_f b5]
          refine rz_eq (tgt := 46) X (by omega) dX5_insert_23 (by decide) (fun _ => ?_) (fun c7 => absurd c7 (fun q => q (by decide)))
          refine lv_aload_n X.1 X.2.1 dX5_insert_46 rfl (lv_at hl 0 rfl) ?_
          refine gC_ranking_numbers X I tb_223 dX5_insert_47 ?_
          refine lv_iload_n X.1 X.2.1 dX5_insert_50 rfl (lv_at hl 3 rfl) ?_
          refine lv_iload_n X.1 X.2.1 dX5_insert_51 rfl (lv_at hl 2 rfl) ?_
          refine qC_numbers X I (by omega) dX5_insert_52 (fun H locs I => ?_)
          have I : In (KC G) s s.heap H locs ((ua U 29 k x), S.2) := I
          refine lv_aload_n X.1 X.2.1 dX5_insert_53 rfl (lv_at hl 0 rfl) ?_
          refine lv_dup X.1 X.2.1 dX5_insert_54 rfl ?_
          refine gC_ranking_size X I (v := sz) (by (try dsimp only); rw [ua_nc (by decide)]; exact h64) tb_225 dX5_insert_55 ?_
          refine ri_const X (v := 1) dX5_insert_58 ?_
          refine ri_add X (v := (sz + 1)) rfl dX5_insert_59 ?_
          refine pC_ranking_size X I tb_225 dX5_insert_60 (fun H locs I => ?_)
          have I : In (KC G) s s.heap H locs ((us (ua U 29 k x) 64 (sz + 1)), S.2) := I
          exact rt_v X hr hlk I (by exact ⟨k, by omega, rfl, by show us (ua U 29 k x) 64 (sz + 1) 64 0 = _; exact us_eq, fun c_ i h1 h2 => (us_nc h2).trans ((ua_nc h1).trans (hfr c_ i h1 h2)), fun i h1 h2 => by show us (ua U 29 k x) 64 (sz + 1) 29 i = _; rw [us_nc (by decide), ua_ni (by omega)]; exact hN i h1 h2, by show us (ua U 29 k x) 64 (sz + 1) 29 k = _; rw [us_nc (by decide), ua_eq], fun i h1 h2 => by show us (ua U 29 k x) 64 (sz + 1) 29 i = _; rw [us_nc (by decide), ua_ni (by omega)]; exact hM i h1 h2, hA, by first | exact Or.inl (by omega) | exact Or.inr (by assumption)⟩) dX5_insert_63
  exact lp_5 (9) sz S.1 (by omega) (by omega) (fun _ _ _ _ => rfl) (e_sz) (fun _ _ _ => rfl) (fun i h1 h2 => absurd h1 (by omega)) (fun i h1 h2 => absurd h1 (by omega)) _ _ I ls (lv_sub hl [1, 2, 3, 0] rfl)

theorem ok_X5_rank : yX5_rank.cls ≠ "java/lang/invoke/MethodHandle" ∧ yX5_rank.cls ≠ "java/lang/invoke/VarHandle" ∧ (parseMethodDescriptor yX5_rank.desc).map (fun d => d.parameters.length) = some 1 := ⟨by decide +kernel, by decide +kernel, by decide +kernel⟩
abbrev po_X5_rank (S : St)  (ln : Int) : St → Prop := fun S1 => S1.2 = S.2 ∧ (∀ (c_ : Nat) (i : Int), ¬ c_ = 29 → ¬ c_ = 64 → S1.1 c_ i = S.1 c_ i) ∧ rkI S1.1 S.2 ln
abbrev rm_X5_rank : Room := ({ frames := 2, cells := 0, slots := 0, locals := 48 } : Room)
set_option maxRecDepth 100000 in
set_option maxHeartbeats 4000000 in
theorem k_X5_rank (l : Launch) (G : Ge) (S : St)  (ln : Int) (e_ln : S.1 51 0 = ln) (hln : 0 ≤ ln ∧ ln ≤ 8) (hrg : ∀ i : Int, 0 ≤ i → i < ln → S.2 i.toNat < 8 ∧ (-1000 ≤ S.1 15 i ∧ S.1 15 i ≤ 1000) ∧ (0 ≤ S.1 5 ((S.2 i.toNat : Nat) : Int) ∧ S.1 5 ((S.2 i.toNat : Nat) : Int) ≤ 100000) ∧ (0 ≤ S.1 2 ((S.2 i.toNat : Nat) : Int) ∧ S.1 2 ((S.2 i.toNat : Nat) : Int) ≤ 12)) : Kv (KC G) l yX5_rank cX5_rank 3 rm_X5_rank [.ref (G.2.2 38), .ref (G.2.2 3)] S (po_X5_rank S ln) := by
  refine K_start (own := "NameSeeker$Ranking") (by decide +kernel) rfl (Nat.le_of_ble_eq_true rfl) ?_
  intro p e s m args below meth c X hr hlk I ls hl
  have hl : lv_has ls 3 [(0, .ref (G.2.2 38)), (1, .ref (G.2.2 3))] := hl
  refine lv_aload_n X.1 X.2.1 dX5_rank_0 rfl (lv_at hl 0 rfl) ?_
  refine ri_const X (v := 0) dX5_rank_1 ?_
  refine pC_ranking_size X I tb_225 dX5_rank_2 (fun H locs I => ?_)
  have I : In (KC G) s s.heap H locs ((us S.1 64 0), S.2) := I
  refine ri_const X (v := 0) dX5_rank_5 ?_
  refine lv_istore_n (lv' := [(2, .int (iI 0)), (0, .ref (G.2.2 38)), (1, .ref (G.2.2 3))]) X.1 X.2.1 dX5_rank_6 rfl hl (by decide) rfl (fun ls hl => ?_)
  have lp_7 : ∀ (fu_ : Nat) (n : Int) (U : Nat → Int → Int), (8 - n).toNat < fu_ → ∀ (hn : 0 ≤ n ∧ n ≤ ln) (hfr : ∀ (c_ : Nat) (i : Int), ¬ c_ = 29 → ¬ c_ = 64 → U c_ i = S.1 c_ i) (hI : rkI U S.2 n) (H : Heap) (locs : List Loc), In (KC G) s s.heap H locs (U, S.2) → ∀ ls : Array Slot, lv_has ls 3 [(0, .ref (G.2.2 38)), (1, .ref (G.2.2 3)), (2, .int (iI n))] → W p l e rm_X5_rank s m args below meth c H locs 0 0 (MQ below (QV (KC G) (po_X5_rank S ln)) args s 0 0 (KC G).2.2.2) (F0 m 7 ls []) := by
    intro fu_
    induction fu_ with
    | zero => intro n U hm; exact absurd hm (by omega)
    | succ fu_ ih_7 =>
      intro n U hm_7 hn hfr hI H locs I ls hl
      refine lv_iload_n X.1 X.2.1 dX5_rank_7 rfl (lv_at hl 2 rfl) ?_
      refine lv_aload_n X.1 X.2.1 dX5_rank_8 rfl (lv_at hl 1 rfl) ?_
      refine gC_lot_size X I (v := ln) ((hfr 51 0 (by decide) (by decide)).trans e_ln) tb_101 dX5_rank_9 ?_
      refine rj_ge (tgt := 38) X (by omega) (by omega) dX5_rank_12 (by decide) (fun c1 => ?_) (fun c1 => ?_)
      · skip
        have hnl : n = ln := by omega
        subst hnl
        exact rt_v X hr hlk I (by exact ⟨rfl, hfr, hI⟩) dX5_rank_38
      · skip
        have hrn := hrg n (by omega) (by omega)
        refine lv_aload_n X.1 X.2.1 dX5_rank_15 rfl (lv_at hl 0 rfl) ?_
        refine gC_ranking_scores X I tb_221 dX5_rank_16 ?_
        refine lv_iload_n X.1 X.2.1 dX5_rank_19 rfl (lv_at hl 2 rfl) ?_
        refine aC_rscores X I (v := (S.1 15 n)) (hfr 15 n (by decide) (by decide)) (by omega) dX5_rank_20 ?_
        refine ri_push X (v := (-4)) (by decide) dX5_rank_21 ?_
        refine rj_eq (tgt := 32) X (by omega) (by omega) dX5_rank_23 (by decide) (fun c2 => ?_) (fun c2 => ?_)
        · skip
          refine ri_iinc X (k := 2) (v := (n + 1)) (lv' := [(2, .int (iI (n + 1))), (0, .ref (G.2.2 38)), (1, .ref (G.2.2 3))]) rfl dX5_rank_32 hl rfl (by decide) rfl (fun ls hl => ?_)
          refine lv_goto (tgt := 7) X.1 X.2.1 dX5_rank_35 (by decide) ?_
          exact ih_7 (n + 1) U (by omega) (by omega) (fun c_ i h1 h2 => by first | exact hfr c_ i h1 h2 | exact (hAf c_ i h1 h2).trans (hfr c_ i h1 h2)) (by first | exact rkI_no hI (by rw [hfr 15 n (by decide) (by decide)]; omega) | exact rkI_yes hI (by omega) (by rw [hfr 15 n (by decide) (by decide)]; omega) hins) _ _ I ls (lv_sub hl [1, 2, 0] rfl)
        · skip
          refine lv_aload_n X.1 X.2.1 dX5_rank_26 rfl (lv_at hl 0 rfl) ?_
          refine lv_aload_n X.1 X.2.1 dX5_rank_27 rfl (lv_at hl 1 rfl) ?_
          refine lv_iload_n X.1 X.2.1 dX5_rank_28 rfl (lv_at hl 2 rfl) ?_
          refine cl_v I (runV (As := [.ref (G.2.2 3), .int (iI n)]) (rest := []) X (k_X5_insert l G (U, S.2)  n ln (U 64 0) ((hfr 51 0 (by decide) (by decide)).trans e_ln) rfl (by omega) (by have := hI.1; have := hI.2.1; omega) (by omega) (fun i h1 h2 => by show S.2 i.toNat < 8 ∧ (-1000 ≤ U 15 i ∧ U 15 i ≤ 1000) ∧ (0 ≤ U 5 _ ∧ U 5 _ ≤ 100000) ∧ (0 ≤ U 2 _ ∧ U 2 _ ≤ 12); rw [hfr 15 i (by decide) (by decide), hfr 5 _ (by decide) (by decide), hfr 2 _ (by decide) (by decide)]; exact hrg i h1 h2) (fun i h1 h2 => by have h3 := hI.2.2.1 i h1 h2; show 0 ≤ U 29 i ∧ U 29 i < ln; omega)) (gdC tb_621 (gdC tb_623 (gdC tb_10 (gdC tb_23 (gdC tb_624 gdB))))) ⟨ok_X5_insert, ⟨Nat.le_of_ble_eq_true rfl, Nat.le_of_ble_eq_true rfl⟩, rfl, rfl⟩ (PreV.of (C := RX5) (T := TX5) (N := 3) I (atC_ranking) rfl) rfl hl.1 rfl (Nat.le_of_ble_eq_true rfl) dX5_rank_29 ⟨Nat.zero_le _, Nat.zero_le _⟩) (fun V H locs q4 I => ?_)
          obtain ⟨V1, V2⟩ := V
          have hins := q4
          obtain ⟨p_, hp0, hA2, hA64, hAf, hA29, hAp, hAs, hAa, hAb⟩ := q4
          dsimp only at hA2 hA64 hAf
          subst hA2
          refine ri_iinc X (k := 2) (v := (n + 1)) (lv' := [(2, .int (iI (n + 1))), (0, .ref (G.2.2 38)), (1, .ref (G.2.2 3))]) rfl dX5_rank_32 hl rfl (by decide) rfl (fun ls hl => ?_)
          refine lv_goto (tgt := 7) X.1 X.2.1 dX5_rank_35 (by decide) ?_
          exact ih_7 (n + 1) V1 (by omega) (by omega) (fun c_ i h1 h2 => by first | exact hfr c_ i h1 h2 | exact (hAf c_ i h1 h2).trans (hfr c_ i h1 h2)) (by first | exact rkI_no hI (by rw [hfr 15 n (by decide) (by decide)]; omega) | exact rkI_yes hI (by omega) (by rw [hfr 15 n (by decide) (by decide)]; omega) hins) _ _ I ls (lv_sub hl [1, 2, 0] rfl)
  exact lp_7 (9) 0 (us S.1 64 0) (by omega) (by omega) (fun c_ i h1 h2 => us_nc h2) (rkI_0) _ _ I ls (lv_sub hl [1, 2, 0] rfl)

theorem ok_X5_isFirst : yX5_isFirst.cls ≠ "java/lang/invoke/MethodHandle" ∧ yX5_isFirst.cls ≠ "java/lang/invoke/VarHandle" ∧ (parseMethodDescriptor yX5_isFirst.desc).map (fun d => d.parameters.length) = some 2 := ⟨by decide +kernel, by decide +kernel, by decide +kernel⟩
abbrev po_X5_isFirst (S : St)  (x : Int) (ln : Int) : Int → St → Prop := fun r S1 => ((r = 1 ∧ fstP S.1 S.2 ln x) ∨ (r = 0 ∧ ¬ fstP S.1 S.2 ln x)) ∧ S1 = S
abbrev rm_X5_isFirst : Room := ({ frames := 1, cells := 0, slots := 0, locals := 25 } : Room)
set_option maxRecDepth 100000 in
set_option maxHeartbeats 4000000 in
theorem k_X5_isFirst (l : Launch) (G : Ge) (S : St)  (x : Int) (ln : Int) (e_ln : S.1 51 0 = ln) (hln : 0 ≤ ln ∧ ln ≤ 8) (hx : 0 ≤ x ∧ x < ln) (hrg : ∀ i : Int, 0 ≤ i → i < ln → S.2 i.toNat < 8 ∧ (-1000 ≤ S.1 15 i ∧ S.1 15 i ≤ 1000) ∧ (0 ≤ S.1 5 ((S.2 i.toNat : Nat) : Int) ∧ S.1 5 ((S.2 i.toNat : Nat) : Int) ≤ 100000) ∧ (0 ≤ S.1 2 ((S.2 i.toNat : Nat) : Int) ∧ S.1 2 ((S.2 i.toNat : Nat) : Int) ≤ 12)) : Ki (KC G) l yX5_isFirst cX5_isFirst 4 .boolean rm_X5_isFirst [.ref (G.2.2 38), .ref (G.2.2 3), .int (iI x)] S (po_X5_isFirst S x ln) := by
  refine K_start (own := "NameSeeker$Ranking") (by decide +kernel) rfl (Nat.le_of_ble_eq_true rfl) ?_
  intro p e s m args below meth c X hr hlk I ls hl
  have hl : lv_has ls 4 [(0, .ref (G.2.2 38)), (1, .ref (G.2.2 3)), (2, .int (iI x))] := hl
  have hrx := hrg x (by omega) (by omega)
  refine lv_aload_n X.1 X.2.1 dX5_isFirst_0 rfl (lv_at hl 0 rfl) ?_
  refine gC_ranking_scores X I tb_221 dX5_isFirst_1 ?_
  refine lv_iload_n X.1 X.2.1 dX5_isFirst_4 rfl (lv_at hl 2 rfl) ?_
  refine aC_rscores X I (v := (S.1 15 x)) rfl (by omega) dX5_isFirst_5 ?_
  refine ri_push X (v := (-4)) (by decide) dX5_isFirst_6 ?_
  refine rj_ne (tgt := 13) X (by omega) (by omega) dX5_isFirst_8 (by decide) (fun c1 => ?_) (fun c1 => ?_)
  · skip
    refine ri_const X (v := 0) dX5_isFirst_13 ?_
    refine lv_istore_n (lv' := [(3, .int (iI 0)), (0, .ref (G.2.2 38)), (1, .ref (G.2.2 3)), (2, .int (iI x))]) X.1 X.2.1 dX5_isFirst_14 rfl hl (by decide) rfl (fun ls hl => ?_)
    have lp_15 : ∀ (fu_ : Nat) (k : Int), (8 - k).toNat < fu_ → ∀ (hk : 0 ≤ k ∧ k ≤ ln) (hno : ∀ i : Int, 0 ≤ i → i < k → ¬ i = x → ¬ S.1 15 i = -4 → ¬ ahS S.1 S.2 i x) (H : Heap) (locs : List Loc), In (KC G) s s.heap H locs S → ∀ ls : Array Slot, lv_has ls 4 [(0, .ref (G.2.2 38)), (1, .ref (G.2.2 3)), (2, .int (iI x)), (3, .int (iI k))] → W p l e rm_X5_isFirst s m args below meth c H locs 0 0 (MQ below (QI (KC G) (po_X5_isFirst S x ln)) args s 0 0 (KC G).2.2.2) (F0 m 15 ls []) := by
      intro fu_
      induction fu_ with
      | zero => intro k hm; exact absurd hm (by omega)
      | succ fu_ ih_15 =>
        intro k hm_15 hk hno H locs I ls hl
        refine lv_iload_n X.1 X.2.1 dX5_isFirst_15 rfl (lv_at hl 3 rfl) ?_
        refine lv_aload_n X.1 X.2.1 dX5_isFirst_16 rfl (lv_at hl 1 rfl) ?_
        refine gC_lot_size X I (v := ln) e_ln tb_101 dX5_isFirst_17 ?_
        refine rj_ge (tgt := 57) X (by omega) (by omega) dX5_isFirst_20 (by decide) (fun c2 => ?_) (fun c2 => ?_)
        · skip
          refine ri_const X (v := 1) dX5_isFirst_57 ?_
          exact rt_i X hr hlk I (by rfl) (by exact ⟨Or.inl ⟨rfl, ⟨by assumption, fun i h1 h2 h3 h4 => hno i h1 (by omega) h3 h4⟩⟩, rfl⟩) dX5_isFirst_58
        · skip
          have hrk := hrg k (by omega) (by omega)
          refine lv_iload_n X.1 X.2.1 dX5_isFirst_23 rfl (lv_at hl 3 rfl) ?_
          refine lv_iload_n X.1 X.2.1 dX5_isFirst_24 rfl (lv_at hl 2 rfl) ?_
          refine rj_eq (tgt := 51) X (by omega) (by omega) dX5_isFirst_25 (by decide) (fun c3 => ?_) (fun c3 => ?_)
          · skip
            refine ri_iinc X (k := 3) (v := (k + 1)) (lv' := [(3, .int (iI (k + 1))), (0, .ref (G.2.2 38)), (1, .ref (G.2.2 3)), (2, .int (iI x))]) rfl dX5_isFirst_51 hl rfl (by decide) rfl (fun ls hl => ?_)
            refine lv_goto (tgt := 15) X.1 X.2.1 dX5_isFirst_54 (by decide) ?_
            exact ih_15 (k + 1) (by omega) (by omega) (fun i h1 h2 h3 h4 => if hi : i = k then (by subst hi; first | exact absurd (by assumption) h3 | exact absurd (by assumption) h4 | assumption) else hno i h1 (by omega) h3 h4) _ _ I ls (lv_sub hl [1, 2, 3, 0] rfl)
          · skip
            refine lv_aload_n X.1 X.2.1 dX5_isFirst_28 rfl (lv_at hl 0 rfl) ?_
            refine gC_ranking_scores X I tb_221 dX5_isFirst_29 ?_
            refine lv_iload_n X.1 X.2.1 dX5_isFirst_32 rfl (lv_at hl 3 rfl) ?_
            refine aC_rscores X I (v := (S.1 15 k)) rfl (by omega) dX5_isFirst_33 ?_
            refine ri_push X (v := (-4)) (by decide) dX5_isFirst_34 ?_
            refine rj_eq (tgt := 51) X (by omega) (by omega) dX5_isFirst_36 (by decide) (fun c4 => ?_) (fun c4 => ?_)
            · skip
              refine ri_iinc X (k := 3) (v := (k + 1)) (lv' := [(3, .int (iI (k + 1))), (0, .ref (G.2.2 38)), (1, .ref (G.2.2 3)), (2, .int (iI x))]) rfl dX5_isFirst_51 hl rfl (by decide) rfl (fun ls hl => ?_)
              refine lv_goto (tgt := 15) X.1 X.2.1 dX5_isFirst_54 (by decide) ?_
              exact ih_15 (k + 1) (by omega) (by omega) (fun i h1 h2 h3 h4 => if hi : i = k then (by subst hi; first | exact absurd (by assumption) h3 | exact absurd (by assumption) h4 | assumption) else hno i h1 (by omega) h3 h4) _ _ I ls (lv_sub hl [1, 2, 3, 0] rfl)
            · skip
              refine lv_aload_n X.1 X.2.1 dX5_isFirst_39 rfl (lv_at hl 0 rfl) ?_
              refine lv_aload_n X.1 X.2.1 dX5_isFirst_40 rfl (lv_at hl 1 rfl) ?_
              refine lv_iload_n X.1 X.2.1 dX5_isFirst_41 rfl (lv_at hl 3 rfl) ?_
              refine lv_iload_n X.1 X.2.1 dX5_isFirst_42 rfl (lv_at hl 2 rfl) ?_
              refine cl_i I (runV (As := [.ref (G.2.2 3), .int (iI k), .int (iI x)]) (rest := []) X (k_X5_isAhead l G S  k x (S.1 15 k) (S.1 15 x) (S.1 5 (((S.2 k.toNat) : Nat) : Int)) (S.1 5 (((S.2 x.toNat) : Nat) : Int)) (S.1 2 (((S.2 k.toNat) : Nat) : Int)) (S.1 2 (((S.2 x.toNat) : Nat) : Int)) rfl rfl rfl rfl rfl rfl (by omega) (by omega) hrk.1 hrx.1 (by omega)) (gdC tb_625 (gdC tb_627 (gdC tb_11 (gdC tb_23 (gdC tb_628 gdB))))) ⟨ok_X5_isAhead, ⟨Nat.le_of_ble_eq_true rfl, Nat.le_of_ble_eq_true rfl⟩, rfl, rfl⟩ (PreV.of (C := RX5) (T := TX5) (N := 3) I (atC_ranking) rfl) rfl hl.1 rfl (Nat.le_of_ble_eq_true rfl) dX5_isFirst_43 ⟨Nat.zero_le _, Nat.zero_le _⟩) (fun r5 S6 H locs q7 I => ?_)
              obtain ⟨e1_, e2_⟩ := q7
              rw [e2_] at I
              rw [e1_]
              clear e1_ e2_
              rcases Decidable.em (ahd (S.1 15 k) (S.1 15 x) (S.1 5 (((S.2 k.toNat) : Nat) : Int)) (S.1 5 (((S.2 x.toNat) : Nat) : Int)) (S.1 2 (((S.2 k.toNat) : Nat) : Int)) (S.1 2 (((S.2 x.toNat) : Nat) : Int)) k x) with b8 | b8
              · rw [bI_t b8]
                refine rz_eq (tgt := 51) X (by omega) dX5_isFirst_46 (by decide) (fun c9 => absurd c9 (by decide)) (fun _ => ?_)
                refine ri_const X (v := 0) dX5_isFirst_49 ?_
                exact rt_i X hr hlk I (by rfl) (by exact ⟨Or.inr ⟨rfl, fun h => h.2 k (by omega) (by omega) (by assumption) (by assumption) (by assumption)⟩, rfl⟩) dX5_isFirst_50
              · rw [bI_f b8]
                refine rz_eq (tgt := 51) X (by omega) dX5_isFirst_46 (by decide) (fun _ => ?_) (fun c10 => absurd c10 (fun q => q (by decide)))
                refine ri_iinc X (k := 3) (v := (k + 1)) (lv' := [(3, .int (iI (k + 1))), (0, .ref (G.2.2 38)), (1, .ref (G.2.2 3)), (2, .int (iI x))]) rfl dX5_isFirst_51 hl rfl (by decide) rfl (fun ls hl => ?_)
                refine lv_goto (tgt := 15) X.1 X.2.1 dX5_isFirst_54 (by decide) ?_
                exact ih_15 (k + 1) (by omega) (by omega) (fun i h1 h2 h3 h4 => if hi : i = k then (by subst hi; first | exact absurd (by assumption) h3 | exact absurd (by assumption) h4 | assumption) else hno i h1 (by omega) h3 h4) _ _ I ls (lv_sub hl [1, 2, 3, 0] rfl)
    exact lp_15 (9) 0 (by omega) (by omega) (fun i h1 h2 => absurd h2 (by omega)) _ _ I ls (lv_sub hl [1, 2, 3, 0] rfl)
  · skip
    refine ri_const X (v := 0) dX5_isFirst_11 ?_
    exact rt_i X hr hlk I (by rfl) (by exact ⟨Or.inr ⟨rfl, fun h => h.1 (by assumption)⟩, rfl⟩) dX5_isFirst_12
