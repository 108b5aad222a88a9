theorem ahoM_congr {sc sd pk nf : Int → Int} {x : Int} : ∀ n : Nat, (∀ j : Int, 0 ≤ j → j < n → sc j = sd j) → sc x = sd x → ahoM sc pk nf x n = ahoM sd pk nf x n
  | 0, _, _ => rfl
  | n + 1, h, hx => by rw [ahoM, ahoM, ahoM_congr n (fun j a b => h j a (by omega)) hx, h n (by omega) (by omega), hx]
/-- whether a name is the first one -/
def ffM (sa kf nf pk f : Int → Int) (b r g m N x : Int) : Prop := ¬ (resS (fun z_ => sa (12 * x + z_)) f (kf x) b r g (nf x) m).1 = 0 ∧ ahoM (fun v_ => (resS (fun z_ => sa (12 * v_ + z_)) f (kf v_) b r g (nf v_) m).2.1) pk nf x N.toNat = 0
theorem ffM_congr {sa kf nf pk f f2 : Int → Int} {b r g m N x : Int} (h : ∀ i : Int, 0 ≤ i → i < m → f i = f2 i) : ffM sa kf nf pk f b r g m N x ↔ ffM sa kf nf pk f2 b r g m N x := by
  unfold ffM
  simp only [resS_congr h]
theorem ffM_cg {sa kf nf pk f f2 : Int → Int} {b r g m m2 N x : Int} (hm : m2 = m) (h : ∀ i : Int, 0 ≤ i → i < m2 → f i = f2 i) : ffM sa kf nf pk f b r g m N x ↔ ffM sa kf nf pk f2 b r g m2 N x := by subst hm; exact ffM_congr h
/-- how many letters two names have both -/
def prM (s1 : Int → Int) (n1 : Nat) (s2 : Int → Int) (n2 : Nat) : Nat → Int
  | 0 => 0
  | i + 1 => if hsL s1 (97 + i) n1 = true ∧ hsL s2 (97 + i) n2 = true then prM s1 n1 s2 n2 i + 1 else prM s1 n1 s2 n2 i
theorem prM_y {s1 s2 : Int → Int} {n1 n2 : Nat} {k : Int} (hk : 97 ≤ k) (h1 : hsL s1 k n1 = true) (h2 : hsL s2 k n2 = true) : prM s1 n1 s2 n2 (k + 1 - 97).toNat = prM s1 n1 s2 n2 (k - 97).toNat + 1 := by
  rw [show (k + 1 - 97).toNat = (k - 97).toNat + 1 by omega, prM, show (97 : Int) + ((k - 97).toNat : Nat) = k by omega, if_pos ⟨h1, h2⟩]
theorem prM_n {s1 s2 : Int → Int} {n1 n2 : Nat} {k : Int} (hk : 97 ≤ k) (h : ¬ (hsL s1 k n1 = true ∧ hsL s2 k n2 = true)) : prM s1 n1 s2 n2 (k + 1 - 97).toNat = prM s1 n1 s2 n2 (k - 97).toNat := by
  rw [show (k + 1 - 97).toNat = (k - 97).toNat + 1 by omega, prM, show (97 : Int) + ((k - 97).toNat : Nat) = k by omega, if_neg h]
/-- so many names are laid -/
def mlI (Q U : Nat → Int → Int) (y : Int) : Prop := (∀ j : Int, 0 ≤ j → j < y → U 3 j = Q 9 j ∧ U 4 j = Q 10 j ∧ U 5 j = Q 55 0 + j ∧ U 6 j = 0 ∧ ∀ i : Int, 0 ≤ i → i < Q 9 j → U 2 (12 * j + i) = Q 8 (12 * j + i)) ∧ U 51 0 = Q 52 0 ∧ U 55 0 = Q 55 0 + y ∧ ∀ (c_ : Nat) (i : Int), ¬ (2 ≤ c_ ∧ c_ ≤ 6) → ¬ c_ = 51 → ¬ c_ = 55 → U c_ i = Q c_ i
theorem mlI_0 {Q : Nat → Int → Int} : mlI Q (us Q 51 (Q 52 0)) 0 := ⟨fun j h1 h2 => absurd h2 (by omega), us_eq, by rw [us_nc (by decide)]; omega, fun c_ i _ h _ => us_nc h⟩
theorem mlI_s {Q U V : Nat → Int → Int} {y k : Int} (hy : 0 ≤ y) (h : mlI Q U y) (hV2 : ∀ i : Int, 0 ≤ i → i < k → V 2 (12 * y + i) = Q 8 (12 * y + i)) (hVf : ∀ (c_ : Nat) (i : Int), ¬ (c_ = 2 ∧ 12 * y ≤ i ∧ i < 12 * y + k) → V c_ i = (ua (us (ua (ua (ua U 3 y (Q 9 y)) 4 y (Q 10 y)) 5 y (Q 55 0 + y)) 55 ((Q 55 0 + y) + 1)) 6 y 0) c_ i) (hk : k = Q 9 y) (hs : ∀ j : Int, 0 ≤ j → j < y → Q 9 j ≤ 12) : mlI Q V (y + 1) := by
  obtain ⟨h1, h2, h3, h4⟩ := h
  refine ⟨fun j a b => ?_, ?_, ?_, fun c_ i a b c => ?_⟩
  · rcases Int.lt_or_le j y with q | q
    · obtain ⟨m1, m2, m3, m4, m5⟩ := h1 j a q
      have := hs j a q
      refine ⟨?_, ?_, ?_, ?_, fun i i1 i2 => ?_⟩
      · rw [hVf 3 j (by omega), ua_nc (by decide), us_nc (by decide), ua_nc (by decide), ua_nc (by decide), ua_ni (by omega)]; exact m1
      · rw [hVf 4 j (by omega), ua_nc (by decide), us_nc (by decide), ua_nc (by decide), ua_ni (by omega), ua_nc (by decide)]; exact m2
      · rw [hVf 5 j (by omega), ua_nc (by decide), us_nc (by decide), ua_ni (by omega), ua_nc (by decide), ua_nc (by decide)]; exact m3
      · rw [hVf 6 j (by omega), ua_ni (by omega), us_nc (by decide), ua_nc (by decide), ua_nc (by decide), ua_nc (by decide)]; exact m4
      · rw [hVf 2 _ (by omega), ua_nc (by decide), us_nc (by decide), ua_nc (by decide), ua_nc (by decide), ua_nc (by decide)]; exact m5 i i1 i2
    · have e : j = y := by omega
      subst e
      refine ⟨?_, ?_, ?_, ?_, fun i i1 i2 => hV2 i i1 (by omega)⟩
      · rw [hVf 3 j (by omega), ua_nc (by decide), us_nc (by decide), ua_nc (by decide), ua_nc (by decide), ua_eq]
      · rw [hVf 4 j (by omega), ua_nc (by decide), us_nc (by decide), ua_nc (by decide), ua_eq]
      · rw [hVf 5 j (by omega), ua_nc (by decide), us_nc (by decide), ua_eq]
      · rw [hVf 6 j (by omega), ua_eq]
  · rw [hVf 51 0 (by omega), ua_nc (by decide), us_nc (by decide), ua_nc (by decide), ua_nc (by decide), ua_nc (by decide)]; exact h2
  · rw [hVf 55 0 (by omega), ua_nc (by decide), us_eq]; omega
  · rw [hVf c_ i (by omega), ua_nc (by omega), us_nc c, ua_nc (by omega), ua_nc (by omega), ua_nc (by omega)]; exact h4 c_ i a b c
theorem cnt_ex {t : Int → Int} : ∀ (I : Nat) (j : Int), 0 ≤ j → j < cnt t I → ∃ k : Nat, k < I ∧ t (itm t k) = 115 ∧ cnt t k = j
  | 0, j, h0, h => by rw [cnt] at h; omega
  | I + 1, j, h0, h => by
    rw [cnt] at h
    rcases Int.lt_or_le j (cnt t I) with q | q
    · obtain ⟨k, a, b, c⟩ := cnt_ex I j h0 q
      exact ⟨k, by omega, b, c⟩
    · by_cases z : t (itm t I) = 115
      · rw [if_pos z] at h
        exact ⟨I, by omega, z, by omega⟩
      · rw [if_neg z] at h; omega
theorem rdP_c {Q : Nat → Int → Int} {t : Int → Int} {L : Int} (h : rdP Q t L) : 0 ≤ Q 52 0 ∧ Q 52 0 ≤ 8 := by
  obtain ⟨I, h1, h2, h3, h4⟩ := h
  rw [h4.1]
  exact ⟨cnt_0 t I, h3⟩
theorem rdP_s {Q : Nat → Int → Int} {t : Int → Int} {L : Int} (h : rdP Q t L) : ∀ j : Int, 0 ≤ j → j < Q 52 0 → 1 ≤ Q 9 j ∧ Q 9 j ≤ 12 := by
  obtain ⟨I, h1, h2, h3, h4⟩ := h
  intro j h0 hj
  rw [h4.1] at hj
  obtain ⟨k, k1, k2, k3⟩ := cnt_ex I j h0 hj
  have hd := h4.2.2.2.2 k k1 k2
  rw [k3] at hd
  have hb := bItm_n k2 (h2 k k1).2
  rw [hd.1]
  omega

theorem ok_X10_isFirst : yX10_isFirst.cls ≠ "java/lang/invoke/MethodHandle" ∧ yX10_isFirst.cls ≠ "java/lang/invoke/VarHandle" ∧ (parseMethodDescriptor yX10_isFirst.desc).map (fun d => d.parameters.length) = some 1 := ⟨by decide +kernel, by decide +kernel, by decide +kernel⟩
abbrev po_X10_isFirst (S : St)  (x : Int) (N_ : Int) (m_ : Int) (f : Int → Int) (sa : Int → Int) (kf : Int → Int) (nf : Int → Int) (pk : Int → Int) (b_ : Int) (r_ : Int) (g_ : Int) : Int → St → Prop := fun r S1 => ((r = 1 ∧ ffM sa kf nf pk f b_ r_ g_ m_ N_ x) ∨ (r = 0 ∧ ¬ ffM sa kf nf pk f b_ r_ g_ m_ N_ x)) ∧ S1.2 = S.2 ∧ ∀ (c_ : Nat) (i : Int), ¬ c_ = 21 → ¬ c_ = 22 → ¬ c_ = 23 → ¬ c_ = 63 → S1.1 c_ i = S.1 c_ i
abbrev rm_X10_isFirst : Room := ({ frames := 5, cells := 0, slots := 0, locals := 111 } : Room)
set_option maxRecDepth 100000 in
set_option maxHeartbeats 4000000 in
theorem k_X10_isFirst (l : Launch) (G : Ge) (S : St)  (x : Int) (N_ : Int) (m_ : Int) (f : Int → Int) (sa : Int → Int) (kf : Int → Int) (nf : Int → Int) (pk : Int → Int) (b_ : Int) (r_ : Int) (g_ : Int) (e_N_ : S.1 51 0 = N_) (e_m_ : S.1 62 0 = m_) (e_f : ∀ i : Int, S.1 20 i = f i) (e_sa : ∀ i : Int, S.1 2 i = sa i) (e_kf : ∀ i : Int, S.1 4 i = kf i) (e_nf : ∀ i : Int, S.1 3 i = nf i) (e_pk : ∀ i : Int, S.1 6 i = pk i) (e_b_ : S.1 7 0 = b_) (e_r_ : S.1 7 1 = r_) (e_g_ : S.1 7 2 = g_) (hx : 0 ≤ x ∧ x < N_) (hN : 1 ≤ N_ ∧ N_ ≤ 8) (hnmD : ∀ y : Int, 0 ≤ y → y < N_ → (1 ≤ nf y ∧ nf y ≤ 12) ∧ (0 ≤ kf y ∧ kf y ≤ 3) ∧ (0 ≤ pk y ∧ pk y ≤ 100000) ∧ ∀ k : Int, 0 ≤ k → k < nf y → ((97 ≤ sa (12 * y + k) ∧ sa (12 * y + k) ≤ 122) ∨ (65 ≤ sa (12 * y + k) ∧ sa (12 * y + k) ≤ 90) ∨ sa (12 * y + k) = 95)) (hwd : (0 ≤ m_ ∧ m_ ≤ 6) ∧ ∀ i : Int, 0 ≤ i → i < m_ → ((97 ≤ f i ∧ f i ≤ 122) ∨ (65 ≤ f i ∧ f i ≤ 90))) (hb : 0 ≤ b_ ∧ b_ ≤ 9) (hr_ : 0 ≤ r_ ∧ r_ ≤ 9) (hg : 0 ≤ g_ ∧ g_ ≤ 9) : Ki (KM G) l yX10_isFirst cX10_isFirst 3 .boolean rm_X10_isFirst [.ref (G.2.2 0), .int (iI x)] S (po_X10_isFirst S x N_ m_ f sa kf nf pk b_ r_ g_) := by
  refine K_start (own := "NameSeekerModel") (by decide +kernel) rfl (Nat.le_of_ble_eq_true rfl) ?_
  intro p e s m args below meth c X hr hlk I ls hl
  have hl : lv_has ls 3 [(0, .ref (G.2.2 0)), (1, .int (iI x))] := hl
  have hny := hnmD x (by omega) (by omega)
  obtain ⟨hn_, hkd, hpky, hs⟩ := hny
  refine lv_aload_n X.1 X.2.1 dX10_isFirst_0 rfl (lv_at hl 0 rfl) ?_
  refine lv_iload_n X.1 X.2.1 dX10_isFirst_1 rfl (lv_at hl 1 rfl) ?_
  refine cl_i I (runV (As := [.int (iI x)]) (rest := []) X (k_X10_waysOf l G S  x (sa) (kf x) (nf x) m_ (f) b_ r_ g_ (fun i_ => (e_sa i_)) (e_kf x) (e_nf x) e_m_ (fun i_ => (e_f i_)) e_b_ e_r_ e_g_ (by omega) hkd hn_ hs hwd.1 (fun j a b => by first | (rw [hTw j a b]; exact hwd.2 j a b) | exact hwd.2 j a b) hb hr_ hg) (gdC tb_936 (gdC tb_938 (gdC tb_23 (gdC tb_48 (gdC tb_939 gdB))))) ⟨ok_X10_waysOf, ⟨Nat.le_of_ble_eq_true rfl, Nat.le_of_ble_eq_true rfl⟩, rfl, rfl⟩ (PreV.of (C := RX10) (T := TX10) (N := 41) I (atM_model) rfl) rfl hl.1 rfl (Nat.le_of_ble_eq_true rfl) dX10_isFirst_2 ⟨Nat.zero_le _, Nat.zero_le _⟩) (fun r1 S2 H locs q3 I => ?_)
  obtain ⟨hW5, hW6, hW7, hW8, hW9, hW10, hW11⟩ := q3
  obtain ⟨V4, V2⟩ := S2
  dsimp only at hW6 hW7 hW8 hW10 hW11
  subst hW6
  subst hW5
  refine rz_ne (tgt := 10) X (by omega) dX10_isFirst_5 (by decide) (fun c12 => ?_) (fun c12 => ?_)
  · skip
    refine ri_const X (v := 0) dX10_isFirst_10 ?_
    refine lv_istore_n (lv' := [(2, .int (iI 0)), (0, .ref (G.2.2 0)), (1, .int (iI x))]) X.1 X.2.1 dX10_isFirst_11 rfl hl (by decide) rfl (fun ls hl => ?_)
    have lp_12 : ∀ (fu_ : Nat) (y : Int) (Z : Nat → Int → Int), (8 - y).toNat < fu_ → ∀ (hy : 0 ≤ y ∧ y ≤ N_) (hfr : ∀ (c_ : Nat) (i : Int), ¬ c_ = 21 → ¬ c_ = 22 → ¬ c_ = 23 → ¬ c_ = 63 → Z c_ i = S.1 c_ i) (hsc0 : ∀ j : Int, 0 ≤ j → j < y → Z 23 j = (resS (fun z_ => sa (12 * j + z_)) f (kf j) b_ r_ g_ (nf j) m_).2.1) (H : Heap) (locs : List Loc), In (KM G) s s.heap H locs (Z, S.2) → ∀ ls : Array Slot, lv_has ls 3 [(0, .ref (G.2.2 0)), (1, .int (iI x)), (2, .int (iI y))] → W p l e rm_X10_isFirst s m args below meth c H locs 0 0 (MQ below (QI (KM G) (po_X10_isFirst S x N_ m_ f sa kf nf pk b_ r_ g_)) args s 0 0 (KM G).2.2.2) (F0 m 12 ls []) := by
      intro fu_
      induction fu_ with
      | zero => intro y Z hm; exact absurd hm (by omega)
      | succ fu_ ih_12 =>
        intro y Z hm_12 hy hfr hsc0 H locs I ls hl
        refine lv_iload_n X.1 X.2.1 dX10_isFirst_12 rfl (lv_at hl 2 rfl) ?_
        refine lv_aload_n X.1 X.2.1 dX10_isFirst_13 rfl (lv_at hl 0 rfl) ?_
        refine gM_model_names X I (v := N_) ((hfr 51 0 (by omega) (by omega) (by omega) (by omega)).trans e_N_) tb_696 dX10_isFirst_14 ?_
        refine rj_ge (tgt := 42) X (by omega) (by omega) dX10_isFirst_17 (by decide) (fun c13 => ?_) (fun c13 => ?_)
        · skip
          have e_y : y = N_ := by omega
          rw [e_y] at hsc0
          have hsc : ∀ j : Int, 0 ≤ j → j < N_ → -2000 ≤ Z 23 j ∧ Z 23 j ≤ 2000 := fun j h1 h2 => by
            rw [hsc0 j h1 h2]; have := hnmD j h1 h2; exact resS_r hb hr_ hg (by omega) hwd.1
          have hpk : ∀ j : Int, 0 ≤ j → j < N_ → 0 ≤ pk j ∧ pk j ≤ 100000 := fun j a b => (hnmD j a b).2.2.1
          have hnf : ∀ j : Int, 0 ≤ j → j < N_ → 0 ≤ nf j ∧ nf j ≤ 12 := fun j a b => by have := (hnmD j a b).1; omega
          have hao : ahoM (Z 23) pk nf x N_.toNat = ahoM (fun v_ => (resS (fun z_ => sa (12 * v_ + z_)) f (kf v_) b_ r_ g_ (nf v_) m_).2.1) pk nf x N_.toNat := ahoM_congr _ (fun j h1 h2 => hsc0 j h1 (by omega)) (hsc0 x (by omega) (by omega))
          refine lv_aload_n X.1 X.2.1 dX10_isFirst_42 rfl (lv_at hl 0 rfl) ?_
          refine lv_iload_n X.1 X.2.1 dX10_isFirst_43 rfl (lv_at hl 1 rfl) ?_
          refine cl_i I (runV (As := [.int (iI x)]) (rest := []) X (k_X10_aheadOf l G (Z, S.2)  x N_ (Z 23) (pk) (nf) ((hfr 51 0 (by omega) (by omega) (by omega) (by omega)).trans e_N_) (fun i_ => rfl) (fun i_ => ((hfr 6 i_ (by omega) (by omega) (by omega) (by omega)).trans (e_pk i_))) (fun i_ => ((hfr 3 i_ (by omega) (by omega) (by omega) (by omega)).trans (e_nf i_))) (by omega) (by omega) hsc hpk hnf) (gdC tb_971 (gdC tb_973 (gdC tb_30 (gdC tb_48 (gdC tb_974 gdB))))) ⟨ok_X10_aheadOf, ⟨Nat.le_of_ble_eq_true rfl, Nat.le_of_ble_eq_true rfl⟩, rfl, rfl⟩ (PreV.of (C := RX10) (T := TX10) (N := 41) I (atM_model) rfl) rfl hl.1 rfl (Nat.le_of_ble_eq_true rfl) dX10_isFirst_44 ⟨Nat.zero_le _, Nat.zero_le _⟩) (fun r14 S15 H locs q16 I => ?_)
          obtain ⟨e1_, e2_⟩ := q16
          rw [e2_] at I
          rw [e1_]
          clear e1_ e2_
          have t17 := ahoM_r (Z 23) (pk) (nf) x (N_).toNat
          refine rz_ne (tgt := 54) X (by omega) dX10_isFirst_47 (by decide) (fun c18 => ?_) (fun c18 => ?_)
          · skip
            refine ri_const X (v := 0) dX10_isFirst_54 ?_
            exact rt_i X hr hlk I (by rfl) (by exact ⟨Or.inr ⟨rfl, fun z => absurd (hao.trans z.2) (by assumption)⟩, rfl, hfr⟩) dX10_isFirst_55
          · skip
            refine ri_const X (v := 1) dX10_isFirst_50 ?_
            refine lv_goto (tgt := 55) X.1 X.2.1 dX10_isFirst_51 (by decide) ?_
            exact rt_i X hr hlk I (by rfl) (by exact ⟨Or.inl ⟨rfl, by assumption, hao.symm.trans (by assumption)⟩, rfl, hfr⟩) dX10_isFirst_55
        · skip
          have hny := hnmD y (by omega) (by omega)
          obtain ⟨hn_, hkd, hpky, hs⟩ := hny
          refine lv_aload_n X.1 X.2.1 dX10_isFirst_20 rfl (lv_at hl 0 rfl) ?_
          refine lv_iload_n X.1 X.2.1 dX10_isFirst_21 rfl (lv_at hl 2 rfl) ?_
          refine cl_i I (runV (As := [.int (iI y)]) (rest := []) X (k_X10_waysOf l G (Z, S.2)  y (sa) (kf y) (nf y) m_ (f) b_ r_ g_ (fun i_ => ((hfr 2 i_ (by omega) (by omega) (by omega) (by omega)).trans (e_sa i_))) ((hfr 4 y (by omega) (by omega) (by omega) (by omega)).trans (e_kf y)) ((hfr 3 y (by omega) (by omega) (by omega) (by omega)).trans (e_nf y)) ((hfr 62 0 (by omega) (by omega) (by omega) (by omega)).trans e_m_) (fun i_ => ((hfr 20 i_ (by omega) (by omega) (by omega) (by omega)).trans (e_f i_))) ((hfr 7 0 (by omega) (by omega) (by omega) (by omega)).trans e_b_) ((hfr 7 1 (by omega) (by omega) (by omega) (by omega)).trans e_r_) ((hfr 7 2 (by omega) (by omega) (by omega) (by omega)).trans e_g_) (by omega) hkd hn_ hs hwd.1 (fun j a b => by first | (rw [hTw j a b]; exact hwd.2 j a b) | exact hwd.2 j a b) hb hr_ hg) (gdC tb_936 (gdC tb_938 (gdC tb_23 (gdC tb_48 (gdC tb_939 gdB))))) ⟨ok_X10_waysOf, ⟨Nat.le_of_ble_eq_true rfl, Nat.le_of_ble_eq_true rfl⟩, rfl, rfl⟩ (PreV.of (C := RX10) (T := TX10) (N := 41) I (atM_model) rfl) rfl hl.1 rfl (Nat.le_of_ble_eq_true rfl) dX10_isFirst_22 ⟨Nat.zero_le _, Nat.zero_le _⟩) (fun r19 S20 H locs q21 I => ?_)
          obtain ⟨hW23, hW24, hW25, hW26, hW27, hW28, hW29⟩ := q21
          obtain ⟨V22, V2⟩ := S20
          dsimp only at hW24 hW25 hW26 hW28 hW29
          subst hW24
          subst hW23
          refine lv_pop X.1 X.2.1 dX10_isFirst_25 rfl ?_
          refine lv_aload_n X.1 X.2.1 dX10_isFirst_26 rfl (lv_at hl 0 rfl) ?_
          refine gM_model_scores X I tb_730 dX10_isFirst_27 ?_
          refine lv_iload_n X.1 X.2.1 dX10_isFirst_30 rfl (lv_at hl 2 rfl) ?_
          refine lv_aload_n X.1 X.2.1 dX10_isFirst_31 rfl (lv_at hl 0 rfl) ?_
          refine gM_model_bestWorth X I (v := (resS (fun z_ => (sa) (12 * y + z_)) (f) (kf y) b_ r_ g_ (nf y) m_).2.1) hW25 tb_729 dX10_isFirst_32 ?_
          refine qM_scores X I (by omega) dX10_isFirst_35 (fun H locs I => ?_)
          have I : In (KM G) s s.heap H locs ((ua V22 23 y (resS (fun z_ => (sa) (12 * y + z_)) (f) (kf y) b_ r_ g_ (nf y) m_).2.1), S.2) := I
          refine ri_iinc X (k := 2) (v := (y + 1)) (lv' := [(2, .int (iI (y + 1))), (0, .ref (G.2.2 0)), (1, .int (iI x))]) rfl dX10_isFirst_36 hl rfl (by decide) rfl (fun ls hl => ?_)
          refine lv_goto (tgt := 12) X.1 X.2.1 dX10_isFirst_39 (by decide) ?_
          exact ih_12 (y + 1) (ua V22 23 y (resS (fun z_ => (sa) (12 * y + z_)) (f) (kf y) b_ r_ g_ (nf y) m_).2.1) (by omega) (by omega) (fun c_ i h1 h2 h3 h4 => by rw [ua_nc h3]; exact (hW29 c_ i h1 h2 h4).trans (hfr c_ i h1 h2 h3 h4)) (fun j h1 h2 => by
      rw [ua_at]
      by_cases q : j = y
      · rw [if_pos ⟨rfl, q⟩, q]
      · rw [if_neg (by omega), hW29 23 j (by omega) (by omega) (by omega)]; exact hsc0 j h1 (by omega)) _ _ I ls (lv_sub hl [1, 2, 0] rfl)
    exact lp_12 (9) 0 V4 (by omega) (by omega) (fun c_ i h1 h2 h3 h4 => hW11 c_ i h1 h2 h4) (fun j h1 h2 => absurd h2 (by omega)) _ _ I ls (lv_sub hl [1, 2, 0] rfl)
  · skip
    refine ri_const X (v := 0) dX10_isFirst_8 ?_
    exact rt_i X hr hlk I (by rfl) (by exact ⟨Or.inr ⟨rfl, fun z => z.1 (by assumption)⟩, rfl, fun c_ i h1 h2 h3 h4 => hW11 c_ i h1 h2 h4⟩) dX10_isFirst_9

theorem ok_X10_brief : yX10_brief.cls ≠ "java/lang/invoke/MethodHandle" ∧ yX10_brief.cls ≠ "java/lang/invoke/VarHandle" ∧ (parseMethodDescriptor yX10_brief.desc).map (fun d => d.parameters.length) = some 1 := ⟨by decide +kernel, by decide +kernel, by decide +kernel⟩
abbrev po_X10_brief (S : St)  (x : Int) : Int → St → Prop := fun r S1 => S1.2 = S.2 ∧ (∀ (c_ : Nat) (i : Int), ¬ (20 ≤ c_ ∧ c_ ≤ 23) → ¬ c_ = 62 → ¬ c_ = 63 → S1.1 c_ i = S.1 c_ i) ∧ ((¬ (0 ≤ x ∧ x < S.1 51 0) ∧ r = -1) ∨ ((0 ≤ x ∧ x < S.1 51 0) ∧ briP (fun u z => ffM (S.1 2) (S.1 4) (S.1 3) (S.1 6) (tf u z) (S.1 7 0) (S.1 7 1) (S.1 7 2) (tm z) (S.1 51 0) x) r))
abbrev rm_X10_brief : Room := ({ frames := 6, cells := 0, slots := 0, locals := 133 } : Room)
set_option maxRecDepth 100000 in
set_option maxHeartbeats 4000000 in
theorem k_X10_brief (l : Launch) (G : Ge) (S : St)  (x : Int)  (hx : -2147483648 ≤ x ∧ x < 2147483648) (hI : MI S.1) : Ki (KM G) l yX10_brief cX10_brief 5 .int rm_X10_brief [.ref (G.2.2 0), .int (iI x)] S (po_X10_brief S x) := by
  refine K_start (own := "NameSeekerModel") (by decide +kernel) rfl (Nat.le_of_ble_eq_true rfl) ?_
  intro p e s m args below meth c X hr hlk I ls hl
  have hl : lv_has ls 5 [(0, .ref (G.2.2 0)), (1, .int (iI x))] := hl
  obtain ⟨ht, hc, hn, hnm, hw, hwd, hkp, hcn, has, hkn⟩ := hI
  refine lv_aload_n X.1 X.2.1 dX10_brief_0 rfl (lv_at hl 0 rfl) ?_
  refine lv_iload_n X.1 X.2.1 dX10_brief_1 rfl (lv_at hl 1 rfl) ?_
  refine cl_i I (runV (As := [.int (iI x)]) (rest := []) X (k_X10_isName l G S  x (S.1 51 0) rfl (by omega) (by omega)) (gdC tb_867 (gdC tb_869 (gdC tb_18 (gdC tb_48 (gdC tb_870 gdB))))) ⟨ok_X10_isName, ⟨Nat.le_of_ble_eq_true rfl, Nat.le_of_ble_eq_true rfl⟩, rfl, rfl⟩ (PreV.of (C := RX10) (T := TX10) (N := 41) I (atM_model) rfl) rfl hl.1 rfl (Nat.le_of_ble_eq_true rfl) dX10_brief_2 ⟨Nat.zero_le _, Nat.zero_le _⟩) (fun r1 S2 H locs q3 I => ?_)
  obtain ⟨e1_, e2_⟩ := q3
  rw [e2_] at I
  rw [e1_]
  clear e1_ e2_
  rcases Decidable.em ((0 ≤ x ∧ x < (S.1 51 0))) with b4 | b4
  · rw [bI_t b4]
    refine rz_ne (tgt := 10) X (by omega) dX10_brief_5 (by decide) (fun _ => ?_) (fun c5 => absurd c5 (by decide))
    have hw0 := hw 0 (by omega) (by omega)
    have hw1 := hw 1 (by omega) (by omega)
    have hw2 := hw 2 (by omega) (by omega)
    have hb := hw0
    have hr_ := hw1
    have hg := hw2
    have hnmD : ∀ y : Int, 0 ≤ y → y < S.1 51 0 → (1 ≤ S.1 3 y ∧ S.1 3 y ≤ 12) ∧ (0 ≤ S.1 4 y ∧ S.1 4 y ≤ 3) ∧ (0 ≤ S.1 6 y ∧ S.1 6 y ≤ 100000) ∧ ∀ k : Int, 0 ≤ k → k < S.1 3 y → ((97 ≤ S.1 2 (12 * y + k) ∧ S.1 2 (12 * y + k) ≤ 122) ∨ (65 ≤ S.1 2 (12 * y + k) ∧ S.1 2 (12 * y + k) ≤ 90) ∨ S.1 2 (12 * y + k) = 95) := fun y a b => by
      obtain ⟨q1, q2, q3, q4, q5⟩ := hnm y a b
      exact ⟨q1, q2, q4, q5⟩
    refine ri_const X (v := 1) dX10_brief_10 ?_
    refine lv_istore_n (lv' := [(2, .int (iI 1)), (0, .ref (G.2.2 0)), (1, .int (iI x))]) X.1 X.2.1 dX10_brief_11 rfl hl (by decide) rfl (fun ls hl => ?_)
    refine lv_iload_n X.1 X.2.1 dX10_brief_12 rfl (lv_at hl 0 rfl) ?_
    refine ri_const X (v := 2) dX10_brief_13 ?_
    refine rj_gt (tgt := 117) X (by omega) (by omega) dX10_brief_14 (by decide) (fun c6 => absurd c6 (by decide)) (fun _ => ?_)
    refine lv_aload_n X.1 X.2.1 dX10_brief_17 rfl (lv_at hl 1 rfl) ?_
    refine lv_iload_n X.1 X.2.1 dX10_brief_18 rfl (lv_at hl 0 rfl) ?_
    refine pM_model_triedSize X I tb_725 dX10_brief_19 (fun H locs I => ?_)
    have I : In (KM G) s s.heap H locs ((us S.1 62 1), S.2) := I
    refine ri_const X (v := 1) dX10_brief_22 ?_
    refine lv_istore_n (lv' := [(3, .int (iI 1)), (2, .int (iI 1)), (0, .ref (G.2.2 0)), (1, .int (iI x))]) X.1 X.2.1 dX10_brief_23 rfl hl (by decide) rfl (fun ls hl => ?_)
    have lp_24 : ∀ (fu_ : Nat) (a : Int) (Z : Nat → Int → Int), (27 - a).toNat < fu_ → ∀ (ha : 1 ≤ a ∧ a ≤ 27) (hfr : ∀ (c_ : Nat) (i : Int), ¬ (20 ≤ c_ ∧ c_ ≤ 23) → ¬ c_ = 62 → ¬ c_ = 63 → Z c_ i = S.1 c_ i) (h62 : Z 62 0 = 1) (hn1 : ∀ b : Int, 1 ≤ b → b < a → ¬ ffM (S.1 2) (S.1 4) (S.1 3) (S.1 6) (tf b 0) (S.1 7 0) (S.1 7 1) (S.1 7 2) (tm 0) (S.1 51 0) x) (H : Heap) (locs : List Loc), In (KM G) s s.heap H locs (Z, S.2) → ∀ ls : Array Slot, lv_has ls 5 [(0, .ref (G.2.2 0)), (1, .int (iI x)), (2, .int (iI 1)), (3, .int (iI a))] → W p l e rm_X10_brief s m args below meth c H locs 0 0 (MQ below (QI (KM G) (po_X10_brief S x)) args s 0 0 (KM G).2.2.2) (F0 m 24 ls []) := by
      intro fu_
      induction fu_ with
      | zero => intro a Z hm; exact absurd hm (by omega)
      | succ fu_ ih_24 =>
        intro a Z hm_24 ha hfr h62 hn1 H locs I ls hl
        refine lv_iload_n X.1 X.2.1 dX10_brief_24 rfl (lv_at hl 3 rfl) ?_
        refine ri_push X (v := 26) (by decide) dX10_brief_25 ?_
        refine rj_gt (tgt := 111) X (by omega) (by omega) dX10_brief_27 (by decide) (fun c7 => ?_) (fun c7 => ?_)
        · skip
          refine ri_iinc X (k := 2) (v := 2) (lv' := [(2, .int (iI 2)), (0, .ref (G.2.2 0)), (1, .int (iI x)), (3, .int (iI a))]) (by decide) dX10_brief_111 hl rfl (by decide) rfl (fun ls hl => ?_)
          refine lv_goto (tgt := 12) X.1 X.2.1 dX10_brief_114 (by decide) ?_
          refine lv_iload_n X.1 X.2.1 dX10_brief_12 rfl (lv_at hl 0 rfl) ?_
          refine ri_const X (v := 2) dX10_brief_13 ?_
          refine rj_gt (tgt := 117) X (by omega) (by omega) dX10_brief_14 (by decide) (fun c8 => absurd c8 (by decide)) (fun _ => ?_)
          have hn1_ : ∀ c : Int, 1 ≤ c → c ≤ 26 → ¬ ffM (S.1 2) (S.1 4) (S.1 3) (S.1 6) (tf c 0) (S.1 7 0) (S.1 7 1) (S.1 7 2) (tm 0) (S.1 51 0) x := fun c h1 h2 => hn1 c h1 (by omega)
          refine lv_aload_n X.1 X.2.1 dX10_brief_17 rfl (lv_at hl 1 rfl) ?_
          refine lv_iload_n X.1 X.2.1 dX10_brief_18 rfl (lv_at hl 0 rfl) ?_
          refine pM_model_triedSize X I tb_725 dX10_brief_19 (fun H locs I => ?_)
          have I : In (KM G) s s.heap H locs ((us Z 62 2), S.2) := I
          refine ri_const X (v := 1) dX10_brief_22 ?_
          refine lv_istore_n (lv' := [(3, .int (iI 1)), (2, .int (iI 2)), (0, .ref (G.2.2 0)), (1, .int (iI x))]) X.1 X.2.1 dX10_brief_23 rfl hl (by decide) rfl (fun ls hl => ?_)
          have lp_24 : ∀ (fu_ : Nat) (a : Int) (Z : Nat → Int → Int), (27 - a).toNat < fu_ → ∀ (ha : 1 ≤ a ∧ a ≤ 27) (hfr : ∀ (c_ : Nat) (i : Int), ¬ (20 ≤ c_ ∧ c_ ≤ 23) → ¬ c_ = 62 → ¬ c_ = 63 → Z c_ i = S.1 c_ i) (h62 : Z 62 0 = 2) (hn2 : ∀ u z : Int, 1 ≤ u → u < a → 1 ≤ z → z ≤ 26 → ¬ ffM (S.1 2) (S.1 4) (S.1 3) (S.1 6) (tf u z) (S.1 7 0) (S.1 7 1) (S.1 7 2) (tm z) (S.1 51 0) x) (H : Heap) (locs : List Loc), In (KM G) s s.heap H locs (Z, S.2) → ∀ ls : Array Slot, lv_has ls 5 [(0, .ref (G.2.2 0)), (1, .int (iI x)), (2, .int (iI 2)), (3, .int (iI a))] → W p l e rm_X10_brief s m args below meth c H locs 0 0 (MQ below (QI (KM G) (po_X10_brief S x)) args s 0 0 (KM G).2.2.2) (F0 m 24 ls []) := by
            intro fu_
            induction fu_ with
            | zero => intro a Z hm; exact absurd hm (by omega)
            | succ fu_ ih_24 =>
              intro a Z hm_24 ha hfr h62 hn2 H locs I ls hl
              refine lv_iload_n X.1 X.2.1 dX10_brief_24 rfl (lv_at hl 3 rfl) ?_
              refine ri_push X (v := 26) (by decide) dX10_brief_25 ?_
              refine rj_gt (tgt := 111) X (by omega) (by omega) dX10_brief_27 (by decide) (fun c9 => ?_) (fun c9 => ?_)
              · skip
                refine ri_iinc X (k := 2) (v := 3) (lv' := [(2, .int (iI 3)), (0, .ref (G.2.2 0)), (1, .int (iI x)), (3, .int (iI a))]) (by decide) dX10_brief_111 hl rfl (by decide) rfl (fun ls hl => ?_)
                refine lv_goto (tgt := 12) X.1 X.2.1 dX10_brief_114 (by decide) ?_
                refine lv_iload_n X.1 X.2.1 dX10_brief_12 rfl (lv_at hl 0 rfl) ?_
                refine ri_const X (v := 2) dX10_brief_13 ?_
                refine rj_gt (tgt := 117) X (by omega) (by omega) dX10_brief_14 (by decide) (fun _ => ?_) (fun c10 => absurd c10 (fun q => q (by decide)))
                refine ri_push X (v := (-4)) (by decide) dX10_brief_117 ?_
                exact rt_i X hr hlk I rfl (by exact ⟨rfl, hfr, Or.inr ⟨by omega, Or.inr (Or.inr ⟨rfl, hn1_, fun c d h1 h2 h3 h4 => hn2 c d h1 (by omega) h3 h4⟩)⟩⟩) dX10_brief_119
              · skip
                refine lv_aload_n X.1 X.2.1 dX10_brief_30 rfl (lv_at hl 0 rfl) ?_
                refine gM_model_tried X I tb_726 dX10_brief_31 ?_
                refine ri_const X (v := 0) dX10_brief_34 ?_
                refine ri_push X (v := 97) (by decide) dX10_brief_35 ?_
                refine lv_iload_n X.1 X.2.1 dX10_brief_37 rfl (lv_at hl 3 rfl) ?_
                refine ri_add X (v := (97 + a)) rfl dX10_brief_38 ?_
                refine ri_const X (v := 1) dX10_brief_39 ?_
                refine ri_sub X (v := ((97 + a) - 1)) rfl dX10_brief_40 ?_
                refine qM_tried X I (by omega) dX10_brief_41 (fun H locs I => ?_)
                have I : In (KM G) s s.heap H locs ((ua Z 20 0 ((97 + a) - 1)), S.2) := I
                refine ri_const X (v := 1) dX10_brief_42 ?_
                refine lv_istore (lv' := [(4, .int (iI 1)), (0, .ref (G.2.2 0)), (1, .int (iI x)), (2, .int (iI 2)), (3, .int (iI a))]) X.1 X.2.1 dX10_brief_43 hl (by decide) rfl (fun ls hl => ?_)
                have lp_45 : ∀ (fu_ : Nat) (b : Int) (Z : Nat → Int → Int), (27 - b).toNat < fu_ → ∀ (hb_ : 1 ≤ b ∧ b ≤ 27) (hfr : ∀ (c_ : Nat) (i : Int), ¬ (20 ≤ c_ ∧ c_ ≤ 23) → ¬ c_ = 62 → ¬ c_ = 63 → Z c_ i = S.1 c_ i) (h62 : Z 62 0 = 2) (h20 : Z 20 0 = (97 + a) - 1) (hn3 : ∀ z : Int, 1 ≤ z → z < b → ¬ ffM (S.1 2) (S.1 4) (S.1 3) (S.1 6) (tf a z) (S.1 7 0) (S.1 7 1) (S.1 7 2) (tm z) (S.1 51 0) x) (H : Heap) (locs : List Loc), In (KM G) s s.heap H locs (Z, S.2) → ∀ ls : Array Slot, lv_has ls 5 [(0, .ref (G.2.2 0)), (1, .int (iI x)), (2, .int (iI 2)), (3, .int (iI a)), (4, .int (iI b))] → W p l e rm_X10_brief s m args below meth c H locs 0 0 (MQ below (QI (KM G) (po_X10_brief S x)) args s 0 0 (KM G).2.2.2) (F0 m 45 ls []) := by
                  intro fu_
                  induction fu_ with
                  | zero => intro b Z hm; exact absurd hm (by omega)
                  | succ fu_ ih_45 =>
                    intro b Z hm_45 hb_ hfr h62 h20 hn3 H locs I ls hl
                    refine lv_iload X.1 X.2.1 dX10_brief_45 (lv_at hl 4 rfl) ?_
                    refine lv_iload_n X.1 X.2.1 dX10_brief_47 rfl (lv_at hl 2 rfl) ?_
                    refine ri_const X (v := 1) dX10_brief_48 ?_
                    refine rj_ne (tgt := 56) X (by omega) (by omega) dX10_brief_49 (by decide) (fun _ => ?_) (fun c11 => absurd c11 (by decide))
                    refine ri_push X (v := 26) (by decide) dX10_brief_56 ?_
                    refine rj_gt (tgt := 105) X (by omega) (by omega) dX10_brief_58 (by decide) (fun c12 => ?_) (fun c12 => ?_)
                    · skip
                      refine ri_iinc X (k := 3) (v := (a + 1)) (lv' := [(3, .int (iI (a + 1))), (0, .ref (G.2.2 0)), (1, .int (iI x)), (2, .int (iI 2)), (4, .int (iI b))]) rfl dX10_brief_105 hl rfl (by decide) rfl (fun ls hl => ?_)
                      refine lv_goto (tgt := 24) X.1 X.2.1 dX10_brief_108 (by decide) ?_
                      exact ih_24 (a + 1) Z (by omega) (by omega) (hfr) (h62) (fun u z h1 h2 h3 h4 => if q : u = a then (by rw [q]; exact hn3 z h3 (by omega)) else hn2 u z h1 (by omega) h3 h4) _ _ I ls (lv_sub hl [1, 2, 3, 0] rfl)
                    · skip
                      refine lv_aload_n X.1 X.2.1 dX10_brief_61 rfl (lv_at hl 0 rfl) ?_
                      refine gM_model_tried X I tb_726 dX10_brief_62 ?_
                      refine ri_const X (v := 1) dX10_brief_65 ?_
                      refine ri_push X (v := 97) (by decide) dX10_brief_66 ?_
                      refine lv_iload X.1 X.2.1 dX10_brief_68 (lv_at hl 4 rfl) ?_
                      refine ri_add X (v := (97 + b)) rfl dX10_brief_70 ?_
                      refine ri_const X (v := 1) dX10_brief_71 ?_
                      refine ri_sub X (v := ((97 + b) - 1)) rfl dX10_brief_72 ?_
                      refine qM_tried X I (by omega) dX10_brief_73 (fun H locs I => ?_)
                      have I : In (KM G) s s.heap H locs ((ua Z 20 1 ((97 + b) - 1)), S.2) := I
                      refine lv_aload_n X.1 X.2.1 dX10_brief_74 rfl (lv_at hl 0 rfl) ?_
                      refine lv_iload_n X.1 X.2.1 dX10_brief_75 rfl (lv_at hl 1 rfl) ?_
                      refine cl_i I (runV (As := [.int (iI x)]) (rest := []) X (k_X10_isFirst l G ((ua Z 20 1 ((97 + b) - 1)), S.2)  x (S.1 51 0) 2 ((ua Z 20 1 ((97 + b) - 1)) 20) (S.1 2) (S.1 4) (S.1 3) (S.1 6) (S.1 7 0) (S.1 7 1) (S.1 7 2) (by show (ua Z 20 1 ((97 + b) - 1)) 51 0 = _; rw [ua_nc (by decide)]; exact (hfr 51 0 (by omega) (by omega) (by omega))) (by show (ua Z 20 1 ((97 + b) - 1)) 62 0 = _; rw [ua_nc (by decide)]; exact h62) (fun i_ => rfl) (fun i_ => (by show (ua Z 20 1 ((97 + b) - 1)) 2 i_ = _; rw [ua_nc (by decide)]; exact (hfr 2 i_ (by omega) (by omega) (by omega)))) (fun i_ => (by show (ua Z 20 1 ((97 + b) - 1)) 4 i_ = _; rw [ua_nc (by decide)]; exact (hfr 4 i_ (by omega) (by omega) (by omega)))) (fun i_ => (by show (ua Z 20 1 ((97 + b) - 1)) 3 i_ = _; rw [ua_nc (by decide)]; exact (hfr 3 i_ (by omega) (by omega) (by omega)))) (fun i_ => (by show (ua Z 20 1 ((97 + b) - 1)) 6 i_ = _; rw [ua_nc (by decide)]; exact (hfr 6 i_ (by omega) (by omega) (by omega)))) (by show (ua Z 20 1 ((97 + b) - 1)) 7 0 = _; rw [ua_nc (by decide)]; exact (hfr 7 0 (by omega) (by omega) (by omega))) (by show (ua Z 20 1 ((97 + b) - 1)) 7 1 = _; rw [ua_nc (by decide)]; exact (hfr 7 1 (by omega) (by omega) (by omega))) (by show (ua Z 20 1 ((97 + b) - 1)) 7 2 = _; rw [ua_nc (by decide)]; exact (hfr 7 2 (by omega) (by omega) (by omega))) (by omega) (by omega) hnmD ⟨by omega, fun i h1 h2 => by
    rcases (show i = 0 ∨ i = 1 by omega) with q | q
    · rw [q, ua_ni (by decide), h20]; omega
    · rw [q, ua_eq]; omega⟩ hb hr_ hg) (gdC tb_1000 (gdC tb_1002 (gdC tb_32 (gdC tb_48 (gdC tb_1003 gdB))))) ⟨ok_X10_isFirst, ⟨Nat.le_of_ble_eq_true rfl, Nat.le_of_ble_eq_true rfl⟩, rfl, rfl⟩ (PreV.of (C := RX10) (T := TX10) (N := 41) I (atM_model) rfl) rfl hl.1 rfl (Nat.le_of_ble_eq_true rfl) dX10_brief_76 ⟨Nat.zero_le _, Nat.zero_le _⟩) (fun r13 S14 H locs q15 I => ?_)
                      obtain ⟨hfq, hf2, hff⟩ := q15
                      obtain ⟨V1, V2⟩ := S14
                      dsimp only at hf2 hff
                      subst hf2
                      have hctf : ∀ i : Int, 0 ≤ i → i < tm b → ((ua Z 20 1 ((97 + b) - 1)) 20) i = tf a b i := fun i h1 h2 => by
                        unfold tm at h2; unfold tf
                        rw [if_pos (by omega)] at h2
                        rcases (show i = 0 ∨ i = 1 by omega) with q | q
                        · rw [q, ua_ni (by decide), if_pos rfl]; exact h20
                        · rw [q, ua_eq, if_neg (by decide)]
                      have htm : tm b = 2 := by unfold tm; first | rw [if_pos (by omega)] | rw [if_neg (by omega)]
                      rw [ffM_cg htm hctf] at hfq
                      have hfr2 : ∀ (c_ : Nat) (i : Int), ¬ (20 ≤ c_ ∧ c_ ≤ 23) → ¬ c_ = 62 → ¬ c_ = 63 → V1 c_ i = S.1 c_ i := fun c_ i h1 h2 h3 => (hff c_ i (by omega) (by omega) (by omega) h3).trans (by show (ua Z 20 1 ((97 + b) - 1)) c_ i = _; rw [ua_nc (by omega)]; exact hfr c_ i h1 h2 h3)
                      have h622 : V1 62 0 = 2 := (hff 62 0 (by decide) (by decide) (by decide) (by decide)).trans (by show (ua Z 20 1 ((97 + b) - 1)) 62 0 = _; rw [ua_nc (by decide)]; exact h62)
                      have h202 : V1 20 0 = (97 + a) - 1 := (hff 20 0 (by decide) (by decide) (by decide) (by decide)).trans (by show (ua Z 20 1 ((97 + b) - 1)) 20 0 = _; rw [ua_ni (by decide)]; exact h20)
                      rcases hfq with ⟨hA1, hA2⟩ | ⟨hA1, hA2⟩
                      · rw [hA1]
                        refine rz_eq (tgt := 99) X (by omega) dX10_brief_79 (by decide) (fun c16 => absurd c16 (by decide)) (fun _ => ?_)
                        refine ri_push X (v := 27) (by decide) dX10_brief_82 ?_
                        refine lv_iload_n X.1 X.2.1 dX10_brief_84 rfl (lv_at hl 3 rfl) ?_
                        refine ri_mul X (v := (27 * a)) rfl dX10_brief_85 ?_
                        refine lv_iload_n X.1 X.2.1 dX10_brief_86 rfl (lv_at hl 2 rfl) ?_
                        refine ri_const X (v := 1) dX10_brief_87 ?_
                        refine rj_ne (tgt := 95) X (by omega) (by omega) dX10_brief_88 (by decide) (fun _ => ?_) (fun c17 => absurd c17 (by decide))
                        refine lv_iload X.1 X.2.1 dX10_brief_95 (lv_at hl 4 rfl) ?_
                        refine ri_add X (v := ((27 * a) + b)) rfl dX10_brief_97 ?_
                        exact rt_i X hr hlk I rfl (by exact ⟨rfl, hfr2, Or.inr ⟨by omega, Or.inr (Or.inl ⟨a, b, by omega, by omega, by omega, hA2, hn1_, hn2, hn3⟩)⟩⟩) dX10_brief_98
                      · rw [hA1]
                        refine rz_eq (tgt := 99) X (by omega) dX10_brief_79 (by decide) (fun _ => ?_) (fun c18 => absurd c18 (fun q => q (by decide)))
                        refine ri_iinc X (k := 4) (v := (b + 1)) (lv' := [(4, .int (iI (b + 1))), (0, .ref (G.2.2 0)), (1, .int (iI x)), (2, .int (iI 2)), (3, .int (iI a))]) rfl dX10_brief_99 hl rfl (by decide) rfl (fun ls hl => ?_)
                        refine lv_goto (tgt := 45) X.1 X.2.1 dX10_brief_102 (by decide) ?_
                        exact ih_45 (b + 1) V1 (by omega) (by omega) (hfr2) (h622) (h202) (fun z h1 h2 => if q : z = b then (by rw [q]; assumption) else hn3 z h1 (by omega)) _ _ I ls (lv_sub hl [1, 2, 3, 4, 0] rfl)
                exact lp_45 (28) 1 (ua Z 20 0 ((97 + a) - 1)) (by omega) (by omega) (fun c_ i h1 h2 h3 => by rw [ua_nc (by omega)]; exact hfr c_ i h1 h2 h3) (by rw [ua_nc (by decide)]; exact h62) (ua_eq) (fun z h1 h2 => absurd h2 (by omega)) _ _ I ls (lv_sub hl [1, 2, 3, 4, 0] rfl)
          exact lp_24 (28) 1 (us Z 62 2) (by omega) (by omega) (fun c_ i h1 h2 h3 => (us_nc h2).trans (by first | rfl | exact hfr c_ i h1 h2 h3)) (us_eq) (fun u z h1 h2 => absurd h2 (by omega)) _ _ I ls (lv_sub hl [2, 3, 1, 0] rfl)
        · skip
          refine lv_aload_n X.1 X.2.1 dX10_brief_30 rfl (lv_at hl 0 rfl) ?_
          refine gM_model_tried X I tb_726 dX10_brief_31 ?_
          refine ri_const X (v := 0) dX10_brief_34 ?_
          refine ri_push X (v := 97) (by decide) dX10_brief_35 ?_
          refine lv_iload_n X.1 X.2.1 dX10_brief_37 rfl (lv_at hl 3 rfl) ?_
          refine ri_add X (v := (97 + a)) rfl dX10_brief_38 ?_
          refine ri_const X (v := 1) dX10_brief_39 ?_
          refine ri_sub X (v := ((97 + a) - 1)) rfl dX10_brief_40 ?_
          refine qM_tried X I (by omega) dX10_brief_41 (fun H locs I => ?_)
          have I : In (KM G) s s.heap H locs ((ua Z 20 0 ((97 + a) - 1)), S.2) := I
          refine ri_const X (v := 1) dX10_brief_42 ?_
          refine lv_istore (lv' := [(4, .int (iI 1)), (0, .ref (G.2.2 0)), (1, .int (iI x)), (2, .int (iI 1)), (3, .int (iI a))]) X.1 X.2.1 dX10_brief_43 hl (by decide) rfl (fun ls hl => ?_)
          refine lv_iload X.1 X.2.1 dX10_brief_45 (lv_at hl 0 rfl) ?_
          refine lv_iload_n X.1 X.2.1 dX10_brief_47 rfl (lv_at hl 3 rfl) ?_
          refine ri_const X (v := 1) dX10_brief_48 ?_
          refine rj_ne (tgt := 56) X (by omega) (by omega) dX10_brief_49 (by decide) (fun c19 => absurd c19 (by decide)) (fun _ => ?_)
          refine ri_const X (v := 1) dX10_brief_52 ?_
          refine lv_goto (tgt := 58) X.1 X.2.1 dX10_brief_53 (by decide) ?_
          refine rj_gt (tgt := 105) X (by omega) (by omega) dX10_brief_58 (by decide) (fun c20 => absurd c20 (by decide)) (fun _ => ?_)
          refine lv_aload_n X.1 X.2.1 dX10_brief_61 rfl (lv_at hl 1 rfl) ?_
          refine gM_model_tried X I tb_726 dX10_brief_62 ?_
          refine ri_const X (v := 1) dX10_brief_65 ?_
          refine ri_push X (v := 97) (by decide) dX10_brief_66 ?_
          refine lv_iload X.1 X.2.1 dX10_brief_68 (lv_at hl 0 rfl) ?_
          refine ri_add X (v := 98) (by decide) dX10_brief_70 ?_
          refine ri_const X (v := 1) dX10_brief_71 ?_
          refine ri_sub X (v := 97) (by decide) dX10_brief_72 ?_
          refine qM_tried X I (by omega) dX10_brief_73 (fun H locs I => ?_)
          have I : In (KM G) s s.heap H locs ((ua (ua Z 20 0 ((97 + a) - 1)) 20 1 97), S.2) := I
          refine lv_aload_n X.1 X.2.1 dX10_brief_74 rfl (lv_at hl 1 rfl) ?_
          refine lv_iload_n X.1 X.2.1 dX10_brief_75 rfl (lv_at hl 2 rfl) ?_
          refine cl_i I (runV (As := [.int (iI x)]) (rest := []) X (k_X10_isFirst l G ((ua (ua Z 20 0 ((97 + a) - 1)) 20 1 97), S.2)  x (S.1 51 0) 1 ((ua (ua Z 20 0 ((97 + a) - 1)) 20 1 97) 20) (S.1 2) (S.1 4) (S.1 3) (S.1 6) (S.1 7 0) (S.1 7 1) (S.1 7 2) (by show (ua (ua Z 20 0 ((97 + a) - 1)) 20 1 97) 51 0 = _; rw [ua_nc (by decide), ua_nc (by decide)]; exact (hfr 51 0 (by omega) (by omega) (by omega))) (by show (ua (ua Z 20 0 ((97 + a) - 1)) 20 1 97) 62 0 = _; rw [ua_nc (by decide), ua_nc (by decide)]; exact h62) (fun i_ => rfl) (fun i_ => (by show (ua (ua Z 20 0 ((97 + a) - 1)) 20 1 97) 2 i_ = _; rw [ua_nc (by decide), ua_nc (by decide)]; exact (hfr 2 i_ (by omega) (by omega) (by omega)))) (fun i_ => (by show (ua (ua Z 20 0 ((97 + a) - 1)) 20 1 97) 4 i_ = _; rw [ua_nc (by decide), ua_nc (by decide)]; exact (hfr 4 i_ (by omega) (by omega) (by omega)))) (fun i_ => (by show (ua (ua Z 20 0 ((97 + a) - 1)) 20 1 97) 3 i_ = _; rw [ua_nc (by decide), ua_nc (by decide)]; exact (hfr 3 i_ (by omega) (by omega) (by omega)))) (fun i_ => (by show (ua (ua Z 20 0 ((97 + a) - 1)) 20 1 97) 6 i_ = _; rw [ua_nc (by decide), ua_nc (by decide)]; exact (hfr 6 i_ (by omega) (by omega) (by omega)))) (by show (ua (ua Z 20 0 ((97 + a) - 1)) 20 1 97) 7 0 = _; rw [ua_nc (by decide), ua_nc (by decide)]; exact (hfr 7 0 (by omega) (by omega) (by omega))) (by show (ua (ua Z 20 0 ((97 + a) - 1)) 20 1 97) 7 1 = _; rw [ua_nc (by decide), ua_nc (by decide)]; exact (hfr 7 1 (by omega) (by omega) (by omega))) (by show (ua (ua Z 20 0 ((97 + a) - 1)) 20 1 97) 7 2 = _; rw [ua_nc (by decide), ua_nc (by decide)]; exact (hfr 7 2 (by omega) (by omega) (by omega))) (by omega) (by omega) hnmD ⟨by omega, fun i h1 h2 => by
    rw [show i = 0 by omega, ua_ni (by decide), ua_eq]; omega⟩ hb hr_ hg) (gdC tb_1000 (gdC tb_1002 (gdC tb_32 (gdC tb_48 (gdC tb_1003 gdB))))) ⟨ok_X10_isFirst, ⟨Nat.le_of_ble_eq_true rfl, Nat.le_of_ble_eq_true rfl⟩, rfl, rfl⟩ (PreV.of (C := RX10) (T := TX10) (N := 41) I (atM_model) rfl) rfl hl.1 rfl (Nat.le_of_ble_eq_true rfl) dX10_brief_76 ⟨Nat.zero_le _, Nat.zero_le _⟩) (fun r21 S22 H locs q23 I => ?_)
          obtain ⟨hfq, hf2, hff⟩ := q23
          obtain ⟨V1, V2⟩ := S22
          dsimp only at hf2 hff
          subst hf2
          have hctf : ∀ i : Int, 0 ≤ i → i < tm 0 → ((ua (ua Z 20 0 ((97 + a) - 1)) 20 1 97) 20) i = tf a 0 i := fun i h1 h2 => by
            unfold tm at h2; unfold tf
            rw [if_neg (by decide)] at h2
            rw [show i = 0 by omega, ua_ni (by decide), ua_eq, if_pos rfl]
          have htm : tm 0 = 1 := by unfold tm; first | rw [if_pos (by omega)] | rw [if_neg (by omega)]
          rw [ffM_cg htm hctf] at hfq
          have hfr2 : ∀ (c_ : Nat) (i : Int), ¬ (20 ≤ c_ ∧ c_ ≤ 23) → ¬ c_ = 62 → ¬ c_ = 63 → V1 c_ i = S.1 c_ i := fun c_ i h1 h2 h3 => (hff c_ i (by omega) (by omega) (by omega) h3).trans (by show (ua (ua Z 20 0 ((97 + a) - 1)) 20 1 97) c_ i = _; rw [ua_nc (by omega)]; rw [ua_nc (by omega)]; exact hfr c_ i h1 h2 h3)
          have h622 : V1 62 0 = 1 := (hff 62 0 (by decide) (by decide) (by decide) (by decide)).trans (by show (ua (ua Z 20 0 ((97 + a) - 1)) 20 1 97) 62 0 = _; rw [ua_nc (by decide)]; rw [ua_nc (by decide)]; exact h62)
          rcases hfq with ⟨hA1, hA2⟩ | ⟨hA1, hA2⟩
          · rw [hA1]
            refine rz_eq (tgt := 99) X (by omega) dX10_brief_79 (by decide) (fun c24 => absurd c24 (by decide)) (fun _ => ?_)
            refine ri_push X (v := 27) (by decide) dX10_brief_82 ?_
            refine lv_iload_n X.1 X.2.1 dX10_brief_84 rfl (lv_at hl 4 rfl) ?_
            refine ri_mul X (v := (27 * a)) rfl dX10_brief_85 ?_
            refine lv_iload_n X.1 X.2.1 dX10_brief_86 rfl (lv_at hl 3 rfl) ?_
            refine ri_const X (v := 1) dX10_brief_87 ?_
            refine rj_ne (tgt := 95) X (by omega) (by omega) dX10_brief_88 (by decide) (fun c25 => absurd c25 (by decide)) (fun _ => ?_)
            refine ri_const X (v := 0) dX10_brief_91 ?_
            refine lv_goto (tgt := 97) X.1 X.2.1 dX10_brief_92 (by decide) ?_
            refine ri_add X (v := (27 * a)) (by omega) dX10_brief_97 ?_
            exact rt_i X hr hlk I rfl (by exact ⟨rfl, hfr2, Or.inr ⟨by omega, Or.inl ⟨a, by omega, by omega, hA2, hn1⟩⟩⟩) dX10_brief_98
          · rw [hA1]
            refine rz_eq (tgt := 99) X (by omega) dX10_brief_79 (by decide) (fun _ => ?_) (fun c26 => absurd c26 (fun q => q (by decide)))
            refine ri_iinc X (k := 0) (v := 2) (lv' := [(4, .int (iI 2)), (0, .ref (G.2.2 0)), (1, .int (iI x)), (2, .int (iI 1)), (3, .int (iI a))]) (by decide) dX10_brief_99 hl rfl (by decide) rfl (fun ls hl => ?_)
            refine lv_goto (tgt := 45) X.1 X.2.1 dX10_brief_102 (by decide) ?_
            refine lv_iload X.1 X.2.1 dX10_brief_45 (lv_at hl 0 rfl) ?_
            refine lv_iload_n X.1 X.2.1 dX10_brief_47 rfl (lv_at hl 3 rfl) ?_
            refine ri_const X (v := 1) dX10_brief_48 ?_
            refine rj_ne (tgt := 56) X (by omega) (by omega) dX10_brief_49 (by decide) (fun c27 => absurd c27 (by decide)) (fun _ => ?_)
            refine ri_const X (v := 1) dX10_brief_52 ?_
            refine lv_goto (tgt := 58) X.1 X.2.1 dX10_brief_53 (by decide) ?_
            refine rj_gt (tgt := 105) X (by omega) (by omega) dX10_brief_58 (by decide) (fun _ => ?_) (fun c28 => absurd c28 (fun q => q (by decide)))
            refine ri_iinc X (k := 4) (v := (a + 1)) (lv' := [(3, .int (iI (a + 1))), (4, .int (iI 2)), (0, .ref (G.2.2 0)), (1, .int (iI x)), (2, .int (iI 1))]) rfl dX10_brief_105 hl rfl (by decide) rfl (fun ls hl => ?_)
            refine lv_goto (tgt := 24) X.1 X.2.1 dX10_brief_108 (by decide) ?_
            exact ih_24 (a + 1) V1 (by omega) (by omega) (hfr2) (h622) (fun b h1 h2 => if q : b = a then (by rw [q]; assumption) else hn1 b h1 (by omega)) _ _ I ls (lv_sub hl [2, 3, 4, 0] rfl)
    exact lp_24 (28) 1 (us S.1 62 1) (by omega) (by omega) (fun c_ i h1 h2 h3 => (us_nc h2).trans (by first | rfl | exact hfr c_ i h1 h2 h3)) (us_eq) (fun b h1 h2 => absurd h2 (by omega)) _ _ I ls (lv_sub hl [2, 3, 1, 0] rfl)
  · rw [bI_f b4]
    refine rz_ne (tgt := 10) X (by omega) dX10_brief_5 (by decide) (fun c29 => absurd c29 (by decide)) (fun _ => ?_)
    refine ri_const X (v := (-1)) dX10_brief_8 ?_
    exact rt_i X hr hlk I rfl (by exact ⟨rfl, fun _ _ _ _ _ => rfl, Or.inl ⟨by omega, rfl⟩⟩) dX10_brief_9

theorem ok_X10_pair : yX10_pair.cls ≠ "java/lang/invoke/MethodHandle" ∧ yX10_pair.cls ≠ "java/lang/invoke/VarHandle" ∧ (parseMethodDescriptor yX10_pair.desc).map (fun d => d.parameters.length) = some 2 := ⟨by decide +kernel, by decide +kernel, by decide +kernel⟩
abbrev po_X10_pair (S : St)  (x : Int) (u : Int) : Int → St → Prop := fun r S1 => ((¬ (0 ≤ x ∧ x < S.1 51 0) ∨ ¬ (0 ≤ u ∧ u < S.1 51 0)) ∧ r = -1 ∧ S1 = S) ∨ ((0 ≤ x ∧ x < S.1 51 0) ∧ (0 ≤ u ∧ u < S.1 51 0) ∧ r = prM (fun z_ => S.1 2 (12 * x + z_)) (S.1 3 x).toNat (fun z_ => S.1 2 (12 * u + z_)) (S.1 3 u).toNat 26 ∧ S1 = S)
abbrev rm_X10_pair : Room := ({ frames := 3, cells := 0, slots := 0, locals := 63 } : Room)
set_option maxRecDepth 100000 in
set_option maxHeartbeats 4000000 in
theorem k_X10_pair (l : Launch) (G : Ge) (S : St)  (x : Int) (u : Int)  (hx : -2147483648 ≤ x ∧ x < 2147483648) (hu : -2147483648 ≤ u ∧ u < 2147483648) (hI : MI S.1) : Ki (KM G) l yX10_pair cX10_pair 5 .int rm_X10_pair [.ref (G.2.2 0), .int (iI x), .int (iI u)] S (po_X10_pair S x u) := by
  refine K_start (own := "NameSeekerModel") (by decide +kernel) rfl (Nat.le_of_ble_eq_true rfl) ?_
  intro p e s m args below meth c X hr hlk I ls hl
  have hl : lv_has ls 5 [(0, .ref (G.2.2 0)), (1, .int (iI x)), (2, .int (iI u))] := hl
  obtain ⟨ht, hc, hn, hnm, hw, hwd, hkp, hcn, has, hkn⟩ := hI
  refine lv_aload_n X.1 X.2.1 dX10_pair_0 rfl (lv_at hl 0 rfl) ?_
  refine lv_iload_n X.1 X.2.1 dX10_pair_1 rfl (lv_at hl 1 rfl) ?_
  refine cl_i I (runV (As := [.int (iI x)]) (rest := []) X (k_X10_isName l G S  x (S.1 51 0) rfl (by omega) (by omega)) (gdC tb_867 (gdC tb_869 (gdC tb_18 (gdC tb_48 (gdC tb_870 gdB))))) ⟨ok_X10_isName, ⟨Nat.le_of_ble_eq_true rfl, Nat.le_of_ble_eq_true rfl⟩, rfl, rfl⟩ (PreV.of (C := RX10) (T := TX10) (N := 41) I (atM_model) rfl) rfl hl.1 rfl (Nat.le_of_ble_eq_true rfl) dX10_pair_2 ⟨Nat.zero_le _, Nat.zero_le _⟩) (fun r1 S2 H locs q3 I => ?_)
  obtain ⟨e1_, e2_⟩ := q3
  rw [e2_] at I
  rw [e1_]
  clear e1_ e2_
  rcases Decidable.em ((0 ≤ x ∧ x < (S.1 51 0))) with b4 | b4
  · rw [bI_t b4]
    refine rz_eq (tgt := 16) X (by omega) dX10_pair_5 (by decide) (fun c5 => absurd c5 (by decide)) (fun _ => ?_)
    refine lv_aload_n X.1 X.2.1 dX10_pair_8 rfl (lv_at hl 0 rfl) ?_
    refine lv_iload_n X.1 X.2.1 dX10_pair_9 rfl (lv_at hl 2 rfl) ?_
    refine cl_i I (runV (As := [.int (iI u)]) (rest := []) X (k_X10_isName l G S  u (S.1 51 0) rfl (by omega) (by omega)) (gdC tb_867 (gdC tb_869 (gdC tb_18 (gdC tb_48 (gdC tb_870 gdB))))) ⟨ok_X10_isName, ⟨Nat.le_of_ble_eq_true rfl, Nat.le_of_ble_eq_true rfl⟩, rfl, rfl⟩ (PreV.of (C := RX10) (T := TX10) (N := 41) I (atM_model) rfl) rfl hl.1 rfl (Nat.le_of_ble_eq_true rfl) dX10_pair_10 ⟨Nat.zero_le _, Nat.zero_le _⟩) (fun r6 S7 H locs q8 I => ?_)
    obtain ⟨e1_, e2_⟩ := q8
    rw [e2_] at I
    rw [e1_]
    clear e1_ e2_
    rcases Decidable.em ((0 ≤ u ∧ u < (S.1 51 0))) with b9 | b9
    · rw [bI_t b9]
      refine rz_ne (tgt := 18) X (by omega) dX10_pair_13 (by decide) (fun _ => ?_) (fun c10 => absurd c10 (by decide))
      have hnx := hnm x (by omega) (by omega)
      have hnu := hnm u (by omega) (by omega)
      obtain ⟨hn1, hn2, hn3, hn4, hn5⟩ := hnx
      obtain ⟨hu1, hu2, hu3, hu4, hu5⟩ := hnu
      refine ri_const X (v := 0) dX10_pair_18 ?_
      refine lv_istore_n (lv' := [(3, .int (iI 0)), (0, .ref (G.2.2 0)), (1, .int (iI x)), (2, .int (iI u))]) X.1 X.2.1 dX10_pair_19 rfl hl (by decide) rfl (fun ls hl => ?_)
      refine ri_push X (v := 97) (by decide) dX10_pair_20 ?_
      refine lv_istore (lv' := [(4, .int (iI 97)), (3, .int (iI 0)), (0, .ref (G.2.2 0)), (1, .int (iI x)), (2, .int (iI u))]) X.1 X.2.1 dX10_pair_22 hl (by decide) rfl (fun ls hl => ?_)
      have lp_24 : ∀ (fu_ : Nat) (k : Int), (123 - k).toNat < fu_ → ∀ (hk : 97 ≤ k ∧ k ≤ 123) (H : Heap) (locs : List Loc), In (KM G) s s.heap H locs S → ∀ ls : Array Slot, lv_has ls 5 [(0, .ref (G.2.2 0)), (1, .int (iI x)), (2, .int (iI u)), (3, .int (iI (prM (fun z_ => S.1 2 (12 * x + z_)) (S.1 3 x).toNat (fun z_ => S.1 2 (12 * u + z_)) (S.1 3 u).toNat (k - 97).toNat))), (4, .int (iI k))] → W p l e rm_X10_pair s m args below meth c H locs 0 0 (MQ below (QI (KM G) (po_X10_pair S x u)) args s 0 0 (KM G).2.2.2) (F0 m 24 ls []) := by
        intro fu_
        induction fu_ with
        | zero => intro k hm; exact absurd hm (by omega)
        | succ fu_ ih_24 =>
          intro k hm_24 hk H locs I ls hl
          refine lv_iload X.1 X.2.1 dX10_pair_24 (lv_at hl 4 rfl) ?_
          refine ri_push X (v := 122) (by decide) dX10_pair_26 ?_
          refine rj_gt (tgt := 60) X (by omega) (by omega) dX10_pair_28 (by decide) (fun c11 => ?_) (fun c11 => ?_)
          · skip
            have e_k : k = 123 := by omega
            refine lv_iload_n X.1 X.2.1 dX10_pair_60 rfl (lv_at hl 3 rfl) ?_
            exact rt_i X hr hlk I rfl (by exact Or.inr ⟨by omega, by omega, by rw [e_k]; rfl, rfl⟩) dX10_pair_61
          · skip
            refine lv_aload_n X.1 X.2.1 dX10_pair_31 rfl (lv_at hl 0 rfl) ?_
            refine lv_iload_n X.1 X.2.1 dX10_pair_32 rfl (lv_at hl 1 rfl) ?_
            refine lv_iload X.1 X.2.1 dX10_pair_33 (lv_at hl 4 rfl) ?_
            refine cl_i I (runV (As := [.int (iI x), .int (iI k)]) (rest := []) X (k_X10_has l G S  x k (S.1 3 x) (S.1 2) rfl (fun i_ => rfl) (by omega) (by omega) hn1 hn5) (gdC tb_967 (gdC tb_969 (gdC tb_29 (gdC tb_48 (gdC tb_970 gdB))))) ⟨ok_X10_has, ⟨Nat.le_of_ble_eq_true rfl, Nat.le_of_ble_eq_true rfl⟩, rfl, rfl⟩ (PreV.of (C := RX10) (T := TX10) (N := 41) I (atM_model) rfl) rfl hl.1 rfl (Nat.le_of_ble_eq_true rfl) dX10_pair_35 ⟨Nat.zero_le _, Nat.zero_le _⟩) (fun r12 S13 H locs q14 I => ?_)
            obtain ⟨e1_, e2_⟩ := q14
            rw [e2_] at I
            rw [e1_]
            clear e1_ e2_
            rcases Decidable.em (hsL (fun z_ => (S.1 2) (12 * x + z_)) k ((S.1 3 x)).toNat = true) with b15 | b15
            · rw [bI_t b15]
              refine rz_eq (tgt := 54) X (by omega) dX10_pair_38 (by decide) (fun c16 => absurd c16 (by decide)) (fun _ => ?_)
              refine lv_aload_n X.1 X.2.1 dX10_pair_41 rfl (lv_at hl 0 rfl) ?_
              refine lv_iload_n X.1 X.2.1 dX10_pair_42 rfl (lv_at hl 2 rfl) ?_
              refine lv_iload X.1 X.2.1 dX10_pair_43 (lv_at hl 4 rfl) ?_
              refine cl_i I (runV (As := [.int (iI u), .int (iI k)]) (rest := []) X (k_X10_has l G S  u k (S.1 3 u) (S.1 2) rfl (fun i_ => rfl) (by omega) (by omega) hu1 hu5) (gdC tb_967 (gdC tb_969 (gdC tb_29 (gdC tb_48 (gdC tb_970 gdB))))) ⟨ok_X10_has, ⟨Nat.le_of_ble_eq_true rfl, Nat.le_of_ble_eq_true rfl⟩, rfl, rfl⟩ (PreV.of (C := RX10) (T := TX10) (N := 41) I (atM_model) rfl) rfl hl.1 rfl (Nat.le_of_ble_eq_true rfl) dX10_pair_45 ⟨Nat.zero_le _, Nat.zero_le _⟩) (fun r17 S18 H locs q19 I => ?_)
              obtain ⟨e1_, e2_⟩ := q19
              rw [e2_] at I
              rw [e1_]
              clear e1_ e2_
              rcases Decidable.em (hsL (fun z_ => (S.1 2) (12 * u + z_)) k ((S.1 3 u)).toNat = true) with b20 | b20
              · rw [bI_t b20]
                refine rz_eq (tgt := 54) X (by omega) dX10_pair_48 (by decide) (fun c21 => absurd c21 (by decide)) (fun _ => ?_)
                refine ri_iinc X (k := 3) (v := ((prM (fun z_ => S.1 2 (12 * x + z_)) (S.1 3 x).toNat (fun z_ => S.1 2 (12 * u + z_)) (S.1 3 u).toNat (k - 97).toNat) + 1)) (lv' := [(3, .int (iI ((prM (fun z_ => S.1 2 (12 * x + z_)) (S.1 3 x).toNat (fun z_ => S.1 2 (12 * u + z_)) (S.1 3 u).toNat (k - 97).toNat) + 1))), (0, .ref (G.2.2 0)), (1, .int (iI x)), (2, .int (iI u)), (4, .int (iI k))]) rfl dX10_pair_51 hl rfl (by decide) rfl (fun ls hl => ?_)
                refine ri_iinc X (k := 4) (v := (k + 1)) (lv' := [(4, .int (iI (k + 1))), (3, .int (iI ((prM (fun z_ => S.1 2 (12 * x + z_)) (S.1 3 x).toNat (fun z_ => S.1 2 (12 * u + z_)) (S.1 3 u).toNat (k - 97).toNat) + 1))), (0, .ref (G.2.2 0)), (1, .int (iI x)), (2, .int (iI u))]) rfl dX10_pair_54 hl rfl (by decide) rfl (fun ls hl => ?_)
                refine lv_goto (tgt := 24) X.1 X.2.1 dX10_pair_57 (by decide) ?_
                have hl : lv_has ls 5 [(4, .int (iI (k + 1))), (3, .int (iI (prM (fun z_ => S.1 2 (12 * x + z_)) (S.1 3 x).toNat (fun z_ => S.1 2 (12 * u + z_)) (S.1 3 u).toNat ((k + 1) - 97).toNat))), (0, .ref (G.2.2 0)), (1, .int (iI x)), (2, .int (iI u))] := by
                  have e_ : ((prM (fun z_ => S.1 2 (12 * x + z_)) (S.1 3 x).toNat (fun z_ => S.1 2 (12 * u + z_)) (S.1 3 u).toNat (k - 97).toNat) + 1) = (prM (fun z_ => S.1 2 (12 * x + z_)) (S.1 3 x).toNat (fun z_ => S.1 2 (12 * u + z_)) (S.1 3 u).toNat ((k + 1) - 97).toNat) := by first | exact (prM_y (by omega) (by assumption) (by assumption)).symm | exact (prM_n (by omega) (fun z => absurd z.1 (by assumption))).symm | exact (prM_n (by omega) (fun z => absurd z.2 (by assumption))).symm
                  rw [← e_]; exact hl
                exact ih_24 (k + 1) (by omega) (by omega) _ _ I ls (lv_sub hl [2, 3, 4, 1, 0] rfl)
              · rw [bI_f b20]
                refine rz_eq (tgt := 54) X (by omega) dX10_pair_48 (by decide) (fun _ => ?_) (fun c22 => absurd c22 (fun q => q (by decide)))
                refine ri_iinc X (k := 4) (v := (k + 1)) (lv' := [(4, .int (iI (k + 1))), (0, .ref (G.2.2 0)), (1, .int (iI x)), (2, .int (iI u)), (3, .int (iI (prM (fun z_ => S.1 2 (12 * x + z_)) (S.1 3 x).toNat (fun z_ => S.1 2 (12 * u + z_)) (S.1 3 u).toNat (k - 97).toNat)))]) rfl dX10_pair_54 hl rfl (by decide) rfl (fun ls hl => ?_)
                refine lv_goto (tgt := 24) X.1 X.2.1 dX10_pair_57 (by decide) ?_
                have hl : lv_has ls 5 [(4, .int (iI (k + 1))), (0, .ref (G.2.2 0)), (1, .int (iI x)), (2, .int (iI u)), (3, .int (iI (prM (fun z_ => S.1 2 (12 * x + z_)) (S.1 3 x).toNat (fun z_ => S.1 2 (12 * u + z_)) (S.1 3 u).toNat ((k + 1) - 97).toNat)))] := by
                  have e_ : (prM (fun z_ => S.1 2 (12 * x + z_)) (S.1 3 x).toNat (fun z_ => S.1 2 (12 * u + z_)) (S.1 3 u).toNat (k - 97).toNat) = (prM (fun z_ => S.1 2 (12 * x + z_)) (S.1 3 x).toNat (fun z_ => S.1 2 (12 * u + z_)) (S.1 3 u).toNat ((k + 1) - 97).toNat) := by first | exact (prM_y (by omega) (by assumption) (by assumption)).symm | exact (prM_n (by omega) (fun z => absurd z.1 (by assumption))).symm | exact (prM_n (by omega) (fun z => absurd z.2 (by assumption))).symm
                  rw [← e_]; exact hl
                exact ih_24 (k + 1) (by omega) (by omega) _ _ I ls (lv_sub hl [1, 2, 3, 4, 0] rfl)
            · rw [bI_f b15]
              refine rz_eq (tgt := 54) X (by omega) dX10_pair_38 (by decide) (fun _ => ?_) (fun c23 => absurd c23 (fun q => q (by decide)))
              refine ri_iinc X (k := 4) (v := (k + 1)) (lv' := [(4, .int (iI (k + 1))), (0, .ref (G.2.2 0)), (1, .int (iI x)), (2, .int (iI u)), (3, .int (iI (prM (fun z_ => S.1 2 (12 * x + z_)) (S.1 3 x).toNat (fun z_ => S.1 2 (12 * u + z_)) (S.1 3 u).toNat (k - 97).toNat)))]) rfl dX10_pair_54 hl rfl (by decide) rfl (fun ls hl => ?_)
              refine lv_goto (tgt := 24) X.1 X.2.1 dX10_pair_57 (by decide) ?_
              have hl : lv_has ls 5 [(4, .int (iI (k + 1))), (0, .ref (G.2.2 0)), (1, .int (iI x)), (2, .int (iI u)), (3, .int (iI (prM (fun z_ => S.1 2 (12 * x + z_)) (S.1 3 x).toNat (fun z_ => S.1 2 (12 * u + z_)) (S.1 3 u).toNat ((k + 1) - 97).toNat)))] := by
                have e_ : (prM (fun z_ => S.1 2 (12 * x + z_)) (S.1 3 x).toNat (fun z_ => S.1 2 (12 * u + z_)) (S.1 3 u).toNat (k - 97).toNat) = (prM (fun z_ => S.1 2 (12 * x + z_)) (S.1 3 x).toNat (fun z_ => S.1 2 (12 * u + z_)) (S.1 3 u).toNat ((k + 1) - 97).toNat) := by first | exact (prM_y (by omega) (by assumption) (by assumption)).symm | exact (prM_n (by omega) (fun z => absurd z.1 (by assumption))).symm | exact (prM_n (by omega) (fun z => absurd z.2 (by assumption))).symm
                rw [← e_]; exact hl
              exact ih_24 (k + 1) (by omega) (by omega) _ _ I ls (lv_sub hl [1, 2, 3, 4, 0] rfl)
      have hl : lv_has ls 5 [(4, .int (iI 97)), (3, .int (iI (prM (fun z_ => S.1 2 (12 * x + z_)) (S.1 3 x).toNat (fun z_ => S.1 2 (12 * u + z_)) (S.1 3 u).toNat ((97 : Int) - 97).toNat))), (0, .ref (G.2.2 0)), (1, .int (iI x)), (2, .int (iI u))] := by
        have e_ : 0 = (prM (fun z_ => S.1 2 (12 * x + z_)) (S.1 3 x).toNat (fun z_ => S.1 2 (12 * u + z_)) (S.1 3 u).toNat ((97 : Int) - 97).toNat) := rfl
        rw [← e_]; exact hl
      exact lp_24 (27) 97 (by omega) (by omega) _ _ I ls (lv_sub hl [2, 3, 4, 1, 0] rfl)
    · rw [bI_f b9]
      refine rz_ne (tgt := 18) X (by omega) dX10_pair_13 (by decide) (fun c24 => absurd c24 (by decide)) (fun _ => ?_)
      refine ri_const X (v := (-1)) dX10_pair_16 ?_
      exact rt_i X hr hlk I rfl (by exact Or.inl ⟨by omega, rfl, rfl⟩) dX10_pair_17
  · rw [bI_f b4]
    refine rz_eq (tgt := 16) X (by omega) dX10_pair_5 (by decide) (fun _ => ?_) (fun c25 => absurd c25 (fun q => q (by decide)))
    refine ri_const X (v := (-1)) dX10_pair_16 ?_
    exact rt_i X hr hlk I rfl (by exact Or.inl ⟨by omega, rfl, rfl⟩) dX10_pair_17

theorem ok_X10_lay : yX10_lay.cls ≠ "java/lang/invoke/MethodHandle" ∧ yX10_lay.cls ≠ "java/lang/invoke/VarHandle" ∧ (parseMethodDescriptor yX10_lay.desc).map (fun d => d.parameters.length) = some 0 := ⟨by decide +kernel, by decide +kernel, by decide +kernel⟩
abbrev po_X10_lay (S : St)  (t : Int → Int) (L_ : Int) : Int → St → Prop := fun r S1 => S1.2 = S.2 ∧ ∃ Q : Nat → Int → Int, (∀ (c_ : Nat) (i : Int), ¬ (8 ≤ c_ ∧ c_ ≤ 11) → ¬ c_ = 52 → Q c_ i = S.1 c_ i) ∧ (flt (ltx t L_) L_ 200 0 0 = -4 → rdP Q (ltx t L_) L_) ∧ (((¬ flt (ltx t L_) L_ 200 0 0 = -4 ∨ Q 52 0 = 0) ∧ r = -2 ∧ S1.1 = Q) ∨ (flt (ltx t L_) L_ 200 0 0 = -4 ∧ ¬ Q 52 0 = 0 ∧ r = Q 52 0 ∧ ∃ U : Nat → Int → Int, mlI Q U (Q 52 0) ∧ S1.1 = (us (us (us (ua (ua (ua U 7 0 (Q 11 0)) 7 1 (Q 11 1)) 7 2 (Q 11 2)) 57 (Q 57 0 + 1)) 53 0) 54 0)))
abbrev rm_X10_lay : Room := ({ frames := 4, cells := 0, slots := 0, locals := 88 } : Room)
set_option maxRecDepth 100000 in
set_option maxHeartbeats 4000000 in
theorem k_X10_lay (l : Launch) (G : Ge) (S : St)  (t : Int → Int) (L_ : Int) (e_t : ∀ i : Int, S.1 1 i = t i) (e_L_ : S.1 50 0 = L_) (ht : 0 ≤ L_ ∧ L_ ≤ 200) (hc : ∀ i : Int, 0 ≤ i → i < L_ → 32 ≤ t i ∧ t i ≤ 126) (h55 : 0 ≤ S.1 55 0 ∧ S.1 55 0 ≤ 10000) : Ki (KM G) l yX10_lay cX10_lay 3 .int rm_X10_lay [.ref (G.2.2 0)] S (po_X10_lay S t L_) := by
  refine K_start (own := "NameSeekerModel") (by decide +kernel) rfl (Nat.le_of_ble_eq_true rfl) ?_
  intro p e s m args below meth c X hr hlk I ls hl
  have hl : lv_has ls 3 [(0, .ref (G.2.2 0))] := hl
  refine lv_aload_n X.1 X.2.1 dX10_lay_0 rfl (lv_at hl 0 rfl) ?_
  refine cl_i I (runV (As := []) (rest := []) X (k_X10_reads l G S  (t) L_ (fun i_ => (e_t i_)) e_L_ ht hc) (gdC tb_830 (gdC tb_832 (gdC tb_13 (gdC tb_48 (gdC tb_833 gdB))))) ⟨ok_X10_reads, ⟨Nat.le_of_ble_eq_true rfl, Nat.le_of_ble_eq_true rfl⟩, rfl, rfl⟩ (PreV.of (C := RX10) (T := TX10) (N := 41) I (atM_model) rfl) rfl hl.1 rfl (Nat.le_of_ble_eq_true rfl) dX10_lay_1 ⟨Nat.zero_le _, Nat.zero_le _⟩) (fun r1 S2 H locs q3 I => ?_)
  obtain ⟨hA1, hA2, hAf, hAp⟩ := q3
  obtain ⟨Q, V2⟩ := S2
  dsimp only at hA2 hAf hAp
  subst hA2
  rw [hA1] at hAp
  rw [hA1]
  have hff := flt_b (f := ltx t L_) (len := L_) (by omega) (fun x => ltx_b ht x) 200 0 0 (by omega)
  refine ri_push X (v := (-4)) (by decide) dX10_lay_4 ?_
  refine rj_ne (tgt := 16) X (by omega) (by omega) dX10_lay_6 (by decide) (fun c4 => ?_) (fun c4 => ?_)
  · skip
    refine ri_push X (v := (-2)) (by decide) dX10_lay_16 ?_
    exact rt_i X hr hlk I rfl (by exact ⟨rfl, Q, hAf, hAp, Or.inl ⟨by first | exact Or.inl (by assumption) | exact Or.inr (by assumption), rfl, rfl⟩⟩) dX10_lay_18
  · skip
    have hrp := hAp (by omega)
    have hq52 := rdP_c hrp
    refine lv_aload_n X.1 X.2.1 dX10_lay_9 rfl (lv_at hl 0 rfl) ?_
    refine gM_model_readNames X I (v := (Q 52 0)) rfl tb_703 dX10_lay_10 ?_
    refine rz_ne (tgt := 19) X (by omega) dX10_lay_13 (by decide) (fun c5 => ?_) (fun c5 => ?_)
    · skip
      have hQs := rdP_s hrp
      have hQ55 : Q 55 0 = S.1 55 0 := hAf 55 0 (by decide) (by decide)
      refine lv_aload_n X.1 X.2.1 dX10_lay_19 rfl (lv_at hl 0 rfl) ?_
      refine lv_aload_n X.1 X.2.1 dX10_lay_20 rfl (lv_at hl 0 rfl) ?_
      refine gM_model_readNames X I (v := (Q 52 0)) rfl tb_703 dX10_lay_21 ?_
      refine pM_model_names X I tb_696 dX10_lay_24 (fun H locs I => ?_)
      have I : In (KM G) s s.heap H locs ((us Q 51 (Q 52 0)), S.2) := I
      refine ri_const X (v := 0) dX10_lay_27 ?_
      refine lv_istore_n (lv' := [(1, .int (iI 0)), (0, .ref (G.2.2 0))]) X.1 X.2.1 dX10_lay_28 rfl hl (by decide) rfl (fun ls hl => ?_)
      have lp_29 : ∀ (fu_ : Nat) (y : Int) (U : Nat → Int → Int), (8 - y).toNat < fu_ → ∀ (hy : 0 ≤ y ∧ y ≤ Q 52 0) (hU51 : U 51 0 = Q 52 0) (hU55 : U 55 0 = Q 55 0 + y) (hUf : ∀ (c_ : Nat) (i : Int), ¬ (2 ≤ c_ ∧ c_ ≤ 6) → ¬ c_ = 51 → ¬ c_ = 55 → U c_ i = Q c_ i) (hml : mlI Q U y) (H : Heap) (locs : List Loc), In (KM G) s s.heap H locs (U, S.2) → ∀ ls : Array Slot, lv_has ls 3 [(0, .ref (G.2.2 0)), (1, .int (iI y))] → W p l e rm_X10_lay s m args below meth c H locs 0 0 (MQ below (QI (KM G) (po_X10_lay S t L_)) args s 0 0 (KM G).2.2.2) (F0 m 29 ls []) := by
        intro fu_
        induction fu_ with
        | zero => intro y U hm; exact absurd hm (by omega)
        | succ fu_ ih_29 =>
          intro y U hm_29 hy hU51 hU55 hUf hml H locs I ls hl
          refine lv_iload_n X.1 X.2.1 dX10_lay_29 rfl (lv_at hl 1 rfl) ?_
          refine lv_aload_n X.1 X.2.1 dX10_lay_30 rfl (lv_at hl 0 rfl) ?_
          refine gM_model_names X I (v := (Q 52 0)) hU51 tb_696 dX10_lay_31 ?_
          refine rj_ge (tgt := 134) X (by omega) (by omega) dX10_lay_34 (by decide) (fun c6 => ?_) (fun c6 => ?_)
          · skip
            have e_y : y = Q 52 0 := by omega
            rw [e_y] at hml
            refine ri_const X (v := 0) dX10_lay_134 ?_
            refine lv_istore_n (lv' := [(1, .int (iI 0)), (0, .ref (G.2.2 0))]) X.1 X.2.1 dX10_lay_135 rfl hl (by decide) rfl (fun ls hl => ?_)
            refine lv_iload_n X.1 X.2.1 dX10_lay_136 rfl (lv_at hl 0 rfl) ?_
            refine ri_const X (v := 3) dX10_lay_137 ?_
            refine rj_ge (tgt := 159) X (by omega) (by omega) dX10_lay_138 (by decide) (fun c7 => absurd c7 (by decide)) (fun _ => ?_)
            refine lv_aload_n X.1 X.2.1 dX10_lay_141 rfl (lv_at hl 1 rfl) ?_
            refine gM_model_worths X I tb_702 dX10_lay_142 ?_
            refine lv_iload_n X.1 X.2.1 dX10_lay_145 rfl (lv_at hl 0 rfl) ?_
            refine lv_aload_n X.1 X.2.1 dX10_lay_146 rfl (lv_at hl 1 rfl) ?_
            refine gM_model_readWorths X I tb_707 dX10_lay_147 ?_
            refine lv_iload_n X.1 X.2.1 dX10_lay_150 rfl (lv_at hl 0 rfl) ?_
            refine aM_readWorths X I (v := (Q 11 0)) (hUf 11 0 (by omega) (by omega) (by omega)) (by omega) dX10_lay_151 ?_
            refine qM_worths X I (by omega) dX10_lay_152 (fun H locs I => ?_)
            have I : In (KM G) s s.heap H locs ((ua U 7 0 (Q 11 0)), S.2) := I
            refine ri_iinc X (k := 0) (v := 1) (lv' := [(1, .int (iI 1)), (0, .ref (G.2.2 0))]) (by decide) dX10_lay_153 hl rfl (by decide) rfl (fun ls hl => ?_)
            refine lv_goto (tgt := 136) X.1 X.2.1 dX10_lay_156 (by decide) ?_
            refine lv_iload_n X.1 X.2.1 dX10_lay_136 rfl (lv_at hl 0 rfl) ?_
            refine ri_const X (v := 3) dX10_lay_137 ?_
            refine rj_ge (tgt := 159) X (by omega) (by omega) dX10_lay_138 (by decide) (fun c8 => absurd c8 (by decide)) (fun _ => ?_)
            refine lv_aload_n X.1 X.2.1 dX10_lay_141 rfl (lv_at hl 1 rfl) ?_
            refine gM_model_worths X I tb_702 dX10_lay_142 ?_
            refine lv_iload_n X.1 X.2.1 dX10_lay_145 rfl (lv_at hl 0 rfl) ?_
            refine lv_aload_n X.1 X.2.1 dX10_lay_146 rfl (lv_at hl 1 rfl) ?_
            refine gM_model_readWorths X I tb_707 dX10_lay_147 ?_
            refine lv_iload_n X.1 X.2.1 dX10_lay_150 rfl (lv_at hl 0 rfl) ?_
            refine aM_readWorths X I (v := (Q 11 1)) (by show (ua U 7 0 (Q 11 0)) 11 1 = _; rw [ua_nc (by decide)]; exact (hUf 11 1 (by omega) (by omega) (by omega))) (by omega) dX10_lay_151 ?_
            refine qM_worths X I (by omega) dX10_lay_152 (fun H locs I => ?_)
            have I : In (KM G) s s.heap H locs ((ua (ua U 7 0 (Q 11 0)) 7 1 (Q 11 1)), S.2) := I
            refine ri_iinc X (k := 0) (v := 2) (lv' := [(1, .int (iI 2)), (0, .ref (G.2.2 0))]) (by decide) dX10_lay_153 hl rfl (by decide) rfl (fun ls hl => ?_)
            refine lv_goto (tgt := 136) X.1 X.2.1 dX10_lay_156 (by decide) ?_
            refine lv_iload_n X.1 X.2.1 dX10_lay_136 rfl (lv_at hl 0 rfl) ?_
            refine ri_const X (v := 3) dX10_lay_137 ?_
            refine rj_ge (tgt := 159) X (by omega) (by omega) dX10_lay_138 (by decide) (fun c9 => absurd c9 (by decide)) (fun _ => ?_)
            refine lv_aload_n X.1 X.2.1 dX10_lay_141 rfl (lv_at hl 1 rfl) ?_
            refine gM_model_worths X I tb_702 dX10_lay_142 ?_
            refine lv_iload_n X.1 X.2.1 dX10_lay_145 rfl (lv_at hl 0 rfl) ?_
            refine lv_aload_n X.1 X.2.1 dX10_lay_146 rfl (lv_at hl 1 rfl) ?_
            refine gM_model_readWorths X I tb_707 dX10_lay_147 ?_
            refine lv_iload_n X.1 X.2.1 dX10_lay_150 rfl (lv_at hl 0 rfl) ?_
            refine aM_readWorths X I (v := (Q 11 2)) (by show (ua (ua U 7 0 (Q 11 0)) 7 1 (Q 11 1)) 11 2 = _; rw [ua_nc (by decide), ua_nc (by decide)]; exact (hUf 11 2 (by omega) (by omega) (by omega))) (by omega) dX10_lay_151 ?_
            refine qM_worths X I (by omega) dX10_lay_152 (fun H locs I => ?_)
            have I : In (KM G) s s.heap H locs ((ua (ua (ua U 7 0 (Q 11 0)) 7 1 (Q 11 1)) 7 2 (Q 11 2)), S.2) := I
            refine ri_iinc X (k := 0) (v := 3) (lv' := [(1, .int (iI 3)), (0, .ref (G.2.2 0))]) (by decide) dX10_lay_153 hl rfl (by decide) rfl (fun ls hl => ?_)
            refine lv_goto (tgt := 136) X.1 X.2.1 dX10_lay_156 (by decide) ?_
            refine lv_iload_n X.1 X.2.1 dX10_lay_136 rfl (lv_at hl 0 rfl) ?_
            refine ri_const X (v := 3) dX10_lay_137 ?_
            refine rj_ge (tgt := 159) X (by omega) (by omega) dX10_lay_138 (by decide) (fun _ => ?_) (fun c10 => absurd c10 (fun q => q (by decide)))
            refine lv_aload_n X.1 X.2.1 dX10_lay_159 rfl (lv_at hl 1 rfl) ?_
            refine lv_dup X.1 X.2.1 dX10_lay_160 rfl ?_
            refine gM_model_age X I (v := (Q 57 0)) (by show (ua (ua (ua U 7 0 (Q 11 0)) 7 1 (Q 11 1)) 7 2 (Q 11 2)) 57 0 = _; rw [ua_nc (by decide), ua_nc (by decide), ua_nc (by decide)]; exact (hUf 57 0 (by omega) (by omega) (by omega))) tb_715 dX10_lay_161 ?_
            refine ri_const X (v := 1) dX10_lay_164 ?_
            refine ri_add X (v := ((Q 57 0) + 1)) rfl dX10_lay_165 ?_
            refine pM_model_age X I tb_715 dX10_lay_166 (fun H locs I => ?_)
            have I : In (KM G) s s.heap H locs ((us (ua (ua (ua U 7 0 (Q 11 0)) 7 1 (Q 11 1)) 7 2 (Q 11 2)) 57 ((Q 57 0) + 1)), S.2) := I
            refine lv_aload_n X.1 X.2.1 dX10_lay_169 rfl (lv_at hl 1 rfl) ?_
            refine ri_const X (v := 0) dX10_lay_170 ?_
            refine pM_model_wordSize X I tb_708 dX10_lay_171 (fun H locs I => ?_)
            have I : In (KM G) s s.heap H locs ((us (us (ua (ua (ua U 7 0 (Q 11 0)) 7 1 (Q 11 1)) 7 2 (Q 11 2)) 57 ((Q 57 0) + 1)) 53 0), S.2) := I
            refine lv_aload_n X.1 X.2.1 dX10_lay_174 rfl (lv_at hl 1 rfl) ?_
            refine ri_const X (v := 0) dX10_lay_175 ?_
            refine pM_model_kept X I tb_710 dX10_lay_176 (fun H locs I => ?_)
            have I : In (KM G) s s.heap H locs ((us (us (us (ua (ua (ua U 7 0 (Q 11 0)) 7 1 (Q 11 1)) 7 2 (Q 11 2)) 57 ((Q 57 0) + 1)) 53 0) 54 0), S.2) := I
            refine lv_aload_n X.1 X.2.1 dX10_lay_179 rfl (lv_at hl 1 rfl) ?_
            refine gM_model_names X I (v := (Q 52 0)) (by show (us (us (us (ua (ua (ua U 7 0 (Q 11 0)) 7 1 (Q 11 1)) 7 2 (Q 11 2)) 57 ((Q 57 0) + 1)) 53 0) 54 0) 51 0 = _; rw [us_nc (by decide), us_nc (by decide), us_nc (by decide), ua_nc (by decide), ua_nc (by decide), ua_nc (by decide)]; exact hU51) tb_696 dX10_lay_180 ?_
            exact rt_i X hr hlk I rfl (by exact ⟨rfl, Q, hAf, hAp, Or.inr ⟨by assumption, by assumption, rfl, U, hml, rfl⟩⟩) dX10_lay_183
          · skip
            have hsy := hQs y (by omega) (by omega)
            refine lv_aload_n X.1 X.2.1 dX10_lay_37 rfl (lv_at hl 0 rfl) ?_
            refine gM_model_sizes X I tb_698 dX10_lay_38 ?_
            refine lv_iload_n X.1 X.2.1 dX10_lay_41 rfl (lv_at hl 1 rfl) ?_
            refine lv_aload_n X.1 X.2.1 dX10_lay_42 rfl (lv_at hl 0 rfl) ?_
            refine gM_model_readSizes X I tb_705 dX10_lay_43 ?_
            refine lv_iload_n X.1 X.2.1 dX10_lay_46 rfl (lv_at hl 1 rfl) ?_
            refine aM_readSizes X I (v := (Q 9 y)) (hUf 9 y (by omega) (by omega) (by omega)) (by omega) dX10_lay_47 ?_
            refine qM_sizes X I (by omega) dX10_lay_48 (fun H locs I => ?_)
            have I : In (KM G) s s.heap H locs ((ua U 3 y (Q 9 y)), S.2) := I
            refine lv_aload_n X.1 X.2.1 dX10_lay_49 rfl (lv_at hl 0 rfl) ?_
            refine gM_model_kinds X I tb_699 dX10_lay_50 ?_
            refine lv_iload_n X.1 X.2.1 dX10_lay_53 rfl (lv_at hl 1 rfl) ?_
            refine lv_aload_n X.1 X.2.1 dX10_lay_54 rfl (lv_at hl 0 rfl) ?_
            refine gM_model_readKinds X I tb_706 dX10_lay_55 ?_
            refine lv_iload_n X.1 X.2.1 dX10_lay_58 rfl (lv_at hl 1 rfl) ?_
            refine aM_readKinds X I (v := (Q 10 y)) (by show (ua U 3 y (Q 9 y)) 10 y = _; rw [ua_nc (by decide)]; exact (hUf 10 y (by omega) (by omega) (by omega))) (by omega) dX10_lay_59 ?_
            refine qM_kinds X I (by omega) dX10_lay_60 (fun H locs I => ?_)
            have I : In (KM G) s s.heap H locs ((ua (ua U 3 y (Q 9 y)) 4 y (Q 10 y)), S.2) := I
            refine lv_aload_n X.1 X.2.1 dX10_lay_61 rfl (lv_at hl 0 rfl) ?_
            refine gM_model_ids X I tb_700 dX10_lay_62 ?_
            refine lv_iload_n X.1 X.2.1 dX10_lay_65 rfl (lv_at hl 1 rfl) ?_
            refine lv_aload_n X.1 X.2.1 dX10_lay_66 rfl (lv_at hl 0 rfl) ?_
            refine gM_model_laid X I (v := (Q 55 0 + y)) (by show (ua (ua U 3 y (Q 9 y)) 4 y (Q 10 y)) 55 0 = _; rw [ua_nc (by decide), ua_nc (by decide)]; exact hU55) tb_713 dX10_lay_67 ?_
            refine qM_ids X I (by omega) dX10_lay_70 (fun H locs I => ?_)
            have I : In (KM G) s s.heap H locs ((ua (ua (ua U 3 y (Q 9 y)) 4 y (Q 10 y)) 5 y (Q 55 0 + y)), S.2) := I
            refine lv_aload_n X.1 X.2.1 dX10_lay_71 rfl (lv_at hl 0 rfl) ?_
            refine lv_dup X.1 X.2.1 dX10_lay_72 rfl ?_
            refine gM_model_laid X I (v := (Q 55 0 + y)) (by show (ua (ua (ua U 3 y (Q 9 y)) 4 y (Q 10 y)) 5 y (Q 55 0 + y)) 55 0 = _; rw [ua_nc (by decide), ua_nc (by decide), ua_nc (by decide)]; exact hU55) tb_713 dX10_lay_73 ?_
            refine ri_const X (v := 1) dX10_lay_76 ?_
            refine ri_add X (v := ((Q 55 0 + y) + 1)) rfl dX10_lay_77 ?_
            refine pM_model_laid X I tb_713 dX10_lay_78 (fun H locs I => ?_)
            have I : In (KM G) s s.heap H locs ((us (ua (ua (ua U 3 y (Q 9 y)) 4 y (Q 10 y)) 5 y (Q 55 0 + y)) 55 ((Q 55 0 + y) + 1)), S.2) := I
            refine lv_aload_n X.1 X.2.1 dX10_lay_81 rfl (lv_at hl 0 rfl) ?_
            refine gM_model_picks X I tb_701 dX10_lay_82 ?_
            refine lv_iload_n X.1 X.2.1 dX10_lay_85 rfl (lv_at hl 1 rfl) ?_
            refine ri_const X (v := 0) dX10_lay_86 ?_
            refine qM_picks X I (by omega) dX10_lay_87 (fun H locs I => ?_)
            have I : In (KM G) s s.heap H locs ((ua (us (ua (ua (ua U 3 y (Q 9 y)) 4 y (Q 10 y)) 5 y (Q 55 0 + y)) 55 ((Q 55 0 + y) + 1)) 6 y 0), S.2) := I
            refine ri_const X (v := 0) dX10_lay_88 ?_
            refine lv_istore_n (lv' := [(2, .int (iI 0)), (0, .ref (G.2.2 0)), (1, .int (iI y))]) X.1 X.2.1 dX10_lay_89 rfl hl (by decide) rfl (fun ls hl => ?_)
            have lp_90 : ∀ (fu_ : Nat) (k : Int) (V : Nat → Int → Int), (12 - k).toNat < fu_ → ∀ (hk : 0 ≤ k ∧ k ≤ Q 9 y) (hV2 : ∀ i : Int, 0 ≤ i → i < k → V 2 (12 * y + i) = Q 8 (12 * y + i)) (hVf : ∀ (c_ : Nat) (i : Int), ¬ (c_ = 2 ∧ 12 * y ≤ i ∧ i < 12 * y + k) → V c_ i = (ua (us (ua (ua (ua U 3 y (Q 9 y)) 4 y (Q 10 y)) 5 y (Q 55 0 + y)) 55 ((Q 55 0 + y) + 1)) 6 y 0) c_ i) (H : Heap) (locs : List Loc), In (KM G) s s.heap H locs (V, S.2) → ∀ ls : Array Slot, lv_has ls 3 [(0, .ref (G.2.2 0)), (1, .int (iI y)), (2, .int (iI k))] → W p l e rm_X10_lay s m args below meth c H locs 0 0 (MQ below (QI (KM G) (po_X10_lay S t L_)) args s 0 0 (KM G).2.2.2) (F0 m 90 ls []) := by
              intro fu_
              induction fu_ with
              | zero => intro k V hm; exact absurd hm (by omega)
              | succ fu_ ih_90 =>
                intro k V hm_90 hk hV2 hVf H locs I ls hl
                refine lv_iload_n X.1 X.2.1 dX10_lay_90 rfl (lv_at hl 2 rfl) ?_
                refine lv_aload_n X.1 X.2.1 dX10_lay_91 rfl (lv_at hl 0 rfl) ?_
                refine gM_model_sizes X I tb_698 dX10_lay_92 ?_
                refine lv_iload_n X.1 X.2.1 dX10_lay_95 rfl (lv_at hl 1 rfl) ?_
                refine aM_sizes X I (v := (Q 9 y)) ((hVf 3 y (by omega)).trans (by show (ua (us (ua (ua (ua U 3 y (Q 9 y)) 4 y (Q 10 y)) 5 y (Q 55 0 + y)) 55 ((Q 55 0 + y) + 1)) 6 y 0) 3 y = _; rw [ua_nc (by decide), us_nc (by decide), ua_nc (by decide), ua_nc (by decide), ua_eq])) (by omega) dX10_lay_96 ?_
                refine rj_ge (tgt := 128) X (by omega) (by omega) dX10_lay_97 (by decide) (fun c11 => ?_) (fun c11 => ?_)
                · skip
                  refine ri_iinc X (k := 1) (v := (y + 1)) (lv' := [(1, .int (iI (y + 1))), (0, .ref (G.2.2 0)), (2, .int (iI k))]) rfl dX10_lay_128 hl rfl (by decide) rfl (fun ls hl => ?_)
                  refine lv_goto (tgt := 29) X.1 X.2.1 dX10_lay_131 (by decide) ?_
                  exact ih_29 (y + 1) V (by omega) (by omega) ((hVf 51 0 (by omega)).trans (by rw [ua_nc (by decide), us_nc (by decide), ua_nc (by decide), ua_nc (by decide), ua_nc (by decide)]; exact hU51)) ((hVf 55 0 (by omega)).trans (by rw [ua_nc (by decide), us_eq]; omega)) (fun c_ i h1 h2 h3 => (hVf c_ i (by omega)).trans (by rw [ua_nc (by omega), us_nc h3, ua_nc (by omega), ua_nc (by omega), ua_nc (by omega)]; exact hUf c_ i h1 h2 h3)) (mlI_s (by omega) hml hV2 hVf (by omega) (fun j a b => (hQs j a (by omega)).2)) _ _ I ls (lv_sub hl [1, 0] rfl)
                · skip
                  refine lv_aload_n X.1 X.2.1 dX10_lay_100 rfl (lv_at hl 0 rfl) ?_
                  refine gM_model_signs X I tb_697 dX10_lay_101 ?_
                  refine ri_push X (v := 12) (by decide) dX10_lay_104 ?_
                  refine lv_iload_n X.1 X.2.1 dX10_lay_106 rfl (lv_at hl 1 rfl) ?_
                  refine ri_mul X (v := (12 * y)) rfl dX10_lay_107 ?_
                  refine lv_iload_n X.1 X.2.1 dX10_lay_108 rfl (lv_at hl 2 rfl) ?_
                  refine ri_add X (v := ((12 * y) + k)) rfl dX10_lay_109 ?_
                  refine lv_aload_n X.1 X.2.1 dX10_lay_110 rfl (lv_at hl 0 rfl) ?_
                  refine gM_model_readSigns X I tb_704 dX10_lay_111 ?_
                  refine ri_push X (v := 12) (by decide) dX10_lay_114 ?_
                  refine lv_iload_n X.1 X.2.1 dX10_lay_116 rfl (lv_at hl 1 rfl) ?_
                  refine ri_mul X (v := (12 * y)) rfl dX10_lay_117 ?_
                  refine lv_iload_n X.1 X.2.1 dX10_lay_118 rfl (lv_at hl 2 rfl) ?_
                  refine ri_add X (v := ((12 * y) + k)) rfl dX10_lay_119 ?_
                  refine aM_readSigns X I (v := (Q 8 ((12 * y) + k))) ((hVf 8 ((12 * y) + k) (by omega)).trans (by show (ua (us (ua (ua (ua U 3 y (Q 9 y)) 4 y (Q 10 y)) 5 y (Q 55 0 + y)) 55 ((Q 55 0 + y) + 1)) 6 y 0) 8 ((12 * y) + k) = _; rw [ua_nc (by decide), us_nc (by decide), ua_nc (by decide), ua_nc (by decide), ua_nc (by decide)]; exact (hUf 8 ((12 * y) + k) (by omega) (by omega) (by omega)))) (by omega) dX10_lay_120 ?_
                  refine qM_signs X I (by omega) dX10_lay_121 (fun H locs I => ?_)
                  have I : In (KM G) s s.heap H locs ((ua V 2 ((12 * y) + k) (Q 8 ((12 * y) + k))), S.2) := I
                  refine ri_iinc X (k := 2) (v := (k + 1)) (lv' := [(2, .int (iI (k + 1))), (0, .ref (G.2.2 0)), (1, .int (iI y))]) rfl dX10_lay_122 hl rfl (by decide) rfl (fun ls hl => ?_)
                  refine lv_goto (tgt := 90) X.1 X.2.1 dX10_lay_125 (by decide) ?_
                  exact ih_90 (k + 1) (ua V 2 ((12 * y) + k) (Q 8 ((12 * y) + k))) (by omega) (by omega) (fun i h1 h2 => by
      rw [ua_at]
      by_cases q : i = k
      · rw [if_pos ⟨rfl, by omega⟩, q]
      · rw [if_neg (by omega)]; exact hV2 i h1 (by omega)) (fun c_ i h => by rw [ua_at, if_neg (by omega)]; exact hVf c_ i (by omega)) _ _ I ls (lv_sub hl [1, 2, 0] rfl)
            exact lp_90 (13) 0 (ua (us (ua (ua (ua U 3 y (Q 9 y)) 4 y (Q 10 y)) 5 y (Q 55 0 + y)) 55 ((Q 55 0 + y) + 1)) 6 y 0) (by omega) (by omega) (fun i h1 h2 => absurd h2 (by omega)) (fun c_ i _ => rfl) _ _ I ls (lv_sub hl [1, 2, 0] rfl)
      exact lp_29 (9) 0 (us Q 51 (Q 52 0)) (by omega) (by omega) (us_eq) (by rw [us_nc (by decide)]; omega) (fun c_ i h1 h2 h3 => us_nc h2) (mlI_0) _ _ I ls (lv_sub hl [1, 0] rfl)
    · skip
      refine ri_push X (v := (-2)) (by decide) dX10_lay_16 ?_
      exact rt_i X hr hlk I rfl (by exact ⟨rfl, Q, hAf, hAp, Or.inl ⟨by first | exact Or.inl (by assumption) | exact Or.inr (by assumption), rfl, rfl⟩⟩) dX10_lay_18
