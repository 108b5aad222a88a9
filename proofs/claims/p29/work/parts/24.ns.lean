/-- the letters of a word that is tried -/
def tf (u z : Int) : Int → Int := fun i => if i = 0 then (97 + u) - 1 else (97 + z) - 1
def tm (z : Int) : Int := if 0 < z then 2 else 1
theorem wlb_congr {f f2 : Int → Int} : ∀ n : Nat, (∀ i : Int, 0 ≤ i → i < n → f i = f2 i) → wlb f n = wlb f2 n
  | 0, _ => rfl
  | n + 1, h => by rw [wlb, wlb, wlb_congr n (fun i a b => h i a (by omega)), h n (by omega) (by omega)]
theorem tlr_congr {sg f f2 : Int → Int} {kd bg b r g n m : Int} (h : ∀ i : Int, 0 ≤ i → i < m → f i = f2 i) : ∀ (d : Nat) (q : Int), (d : Int) < m → tlr sg f kd bg b r g n m d q = tlr sg f2 kd bg b r g n m d q
  | 0, q, hd => by rw [tlr, tlr, h (m - 1) (by omega) (by omega)]
  | d + 1, q, hd => by
    rw [tlr, tlr, h (m - 2 - d) (by omega) (by omega)]
    exact rw1_congr (fun _ i _ _ => by rw [tlr_congr h d i (by omega)])
theorem wor_congr {sg f f2 : Int → Int} {kd bg b r g n m : Int} (h : ∀ i : Int, 0 ≤ i → i < m → f i = f2 i) (hm0 : 0 ≤ m := by omega) : wor sg f kd bg b r g n m = wor sg f2 kd bg b r g n m := by
  unfold wor
  by_cases hm : m = 0
  · rw [if_pos hm, if_pos hm]
  · rw [if_neg hm, if_neg hm]
    rw [show (fun x => (tlr sg f kd bg b r g n m (m - 1).toNat x).1) = (fun x => (tlr sg f2 kd bg b r g n m (m - 1).toNat x).1) from funext fun x => by rw [tlr_congr h (m - 1).toNat x (by omega)]]
/-- the word that is tried holds letters -/
def wdT (F : Nat → Int → Int) : Prop := (0 ≤ F 8 1 ∧ F 8 1 ≤ 6) ∧ ∀ i : Int, 0 ≤ i → i < F 8 1 → ((97 ≤ F (16 + 1) i ∧ F (16 + 1) i ≤ 122) ∨ (65 ≤ F (16 + 1) i ∧ F (16 + 1) i ≤ 90))
theorem wdT_of {F U : Nat → Int → Int} {v : Int} (h8 : F 8 1 = v) (hv : 0 ≤ v ∧ v ≤ 6) (hL : ∀ i : Int, 0 ≤ i → i < v → ((97 ≤ F (16 + 1) i ∧ F (16 + 1) i ≤ 122) ∨ (65 ≤ F (16 + 1) i ∧ F (16 + 1) i ≤ 90))) (h1 : ∀ i : Int, U 8 i = F 8 i) (h2 : ∀ i : Int, U (16 + 1) i = F (16 + 1) i) : wdT U := ⟨by rw [h1, h8]; exact hv, fun i a b => by rw [h2]; exact hL i a (by rw [h1, h8] at b; exact b)⟩
/-- a name's score by letters that are tried -/
def scT (F : Nat → Int → Int) (P : Nat → Nat) (u z i : Int) : Int := wor (F (20 + P i.toNat)) (tf u z) (F 3 ((P i.toNat : Nat) : Int)) (F 6 ((P i.toNat : Nat) : Int)) (F 53 0) (F 54 0) (F 55 0) (F 2 ((P i.toNat : Nat) : Int)) (tm z)
/-- a name would be the first by letters that are tried -/
def fbP (F : Nat → Int → Int) (P : Nat → Nat) (ln x u z : Int) : Prop := bandn (wlb (tf u z) (tm z).toNat) (F 7 ((P x.toNat : Nat) : Int)) = 0 ∧ ¬ scT F P u z x = -4 ∧ ∀ i : Int, 0 ≤ i → i < ln → ¬ i = x → ¬ scT F P u z i = -4 → ¬ ahd (scT F P u z i) (scT F P u z x) (F 5 ((P i.toNat : Nat) : Int)) (F 5 ((P x.toNat : Nat) : Int)) (F 2 ((P i.toNat : Nat) : Int)) (F 2 ((P x.toNat : Nat) : Int)) i x
theorem fq_iff {U F : Nat → Int → Int} {P : Nat → Nat} {ln x u z : Int} (hs : ∀ i : Int, 0 ≤ i → i < ln → U 15 i = scT F P u z i) (hx : 0 ≤ x ∧ x < ln) (h5 : ∀ i : Int, U 5 i = F 5 i) (h2 : ∀ i : Int, U 2 i = F 2 i) : fstP U P ln x ↔ (¬ scT F P u z x = -4 ∧ ∀ i : Int, 0 ≤ i → i < ln → ¬ i = x → ¬ scT F P u z i = -4 → ¬ ahd (scT F P u z i) (scT F P u z x) (F 5 ((P i.toNat : Nat) : Int)) (F 5 ((P x.toNat : Nat) : Int)) (F 2 ((P i.toNat : Nat) : Int)) (F 2 ((P x.toNat : Nat) : Int)) i x) := by
  unfold fstP ahS
  rw [hs x hx.1 hx.2, h5, h2]
  constructor
  · intro h
    refine ⟨h.1, fun i a b c d => ?_⟩
    have h3 := h.2 i a b c (by rw [hs i a b]; exact d)
    rw [hs i a b, h5, h2] at h3
    exact h3
  · intro h
    refine ⟨h.1, fun i a b c d => ?_⟩
    rw [hs i a b] at d ⊢
    rw [h5, h2]
    exact h.2 i a b c d
def BI (S : St) : Prop := (1 ≤ S.1 51 0 ∧ S.1 51 0 ≤ 8) ∧ ((0 ≤ S.1 53 0 ∧ S.1 53 0 ≤ 9) ∧ (0 ≤ S.1 54 0 ∧ S.1 54 0 ≤ 9) ∧ (0 ≤ S.1 55 0 ∧ S.1 55 0 ≤ 9)) ∧ (∀ i : Nat, i < 8 → S.2 i < 8) ∧ (∀ x : Int, 0 ≤ x → x < S.1 51 0 → NmOK S.1 (S.2 x.toNat)) ∧ nxi S.1
theorem CI_BI {S : St} {n : Int} (h : CI S n) : BI S := ⟨h.2.2.1, h.2.2.2.1, h.2.2.2.2.2.1, h.2.2.2.2.2.2.2.1, h.2.2.2.2.2.2.2.2.2.2.2⟩
theorem BI_fr {F U : Nat → Int → Int} {P : Nat → Nat} (h : ∀ (c_ : Nat) (i : Int), ((2 ≤ c_ ∧ c_ ≤ 7) ∨ (20 ≤ c_ ∧ c_ < 28) ∨ (51 ≤ c_ ∧ c_ ≤ 55)) → U c_ i = F c_ i) (hn : nxi U) (hB : BI (F, P)) : BI (U, P) := by
  obtain ⟨h1, h2, h3, h4, h5⟩ := hB
  refine ⟨?_, ?_, h3, ?_, hn⟩
  · show 1 ≤ U 51 0 ∧ U 51 0 ≤ 8
    rw [h 51 _ (by omega)]; exact h1
  · show (0 ≤ U 53 0 ∧ U 53 0 ≤ 9) ∧ (0 ≤ U 54 0 ∧ U 54 0 ≤ 9) ∧ (0 ≤ U 55 0 ∧ U 55 0 ≤ 9)
    rw [h 53 _ (by omega), h 54 _ (by omega), h 55 _ (by omega)]; exact h2
  · intro x a b
    have b2 : x < F 51 0 := by rw [← h 51 0 (by omega)]; exact b
    have hl : F 51 0 ≤ 8 := h1.2
    exact NmOK_fr (F := F) (fun c_ i q => h c_ i (by omega)) (h3 _ (by omega)) (h4 x a b2)
theorem fbP_congr {F F2 : Nat → Int → Int} {P : Nat → Nat} {x u z : Int} (h : ∀ (c_ : Nat) (i : Int), ((2 ≤ c_ ∧ c_ ≤ 7) ∨ (20 ≤ c_ ∧ c_ < 28) ∨ (51 ≤ c_ ∧ c_ ≤ 55)) → F c_ i = F2 c_ i) (hp : ∀ i : Nat, i < 8 → P i < 8) (hx : 0 ≤ x ∧ x < F2 51 0 ∧ F2 51 0 ≤ 8) : fbP F P (F 51 0) x u z = fbP F2 P (F2 51 0) x u z := by
  have es : ∀ i : Int, 0 ≤ i → i < F2 51 0 → scT F P u z i = scT F2 P u z i := fun i a b => by
    have := hp i.toNat (by omega)
    unfold scT
    rw [h 3 _ (by omega), h 6 _ (by omega), h 53 _ (by omega), h 54 _ (by omega), h 55 _ (by omega), h 2 _ (by omega), show F (20 + P i.toNat) = F2 (20 + P i.toNat) from funext fun q => h _ q (by omega)]
  unfold fbP
  rw [h 51 _ (by omega), h 7 _ (by omega), es x hx.1 hx.2.1]
  refine congrArg _ (congrArg _ ?_)
  refine propext ⟨fun g i a b c d => ?_, fun g i a b c d => ?_⟩
  · have := g i a b c (by rw [es i a b]; exact d)
    rw [es i a b, h 5 _ (by omega), h 5 _ (by omega), h 2 _ (by omega), h 2 _ (by omega)] at this
    exact this
  · rw [es i a b] at d ⊢
    rw [h 5 _ (by omega), h 5 _ (by omega), h 2 _ (by omega), h 2 _ (by omega)]
    exact g i a b c d
/-- the first of the short words, by its number -/
def briP (Q : Int → Int → Prop) (r : Int) : Prop := (∃ a : Int, (1 ≤ a ∧ a ≤ 26) ∧ r = 27 * a ∧ Q a 0 ∧ ∀ b : Int, 1 ≤ b → b < a → ¬ Q b 0) ∨ (∃ a b : Int, (1 ≤ a ∧ a ≤ 26) ∧ (1 ≤ b ∧ b ≤ 26) ∧ r = 27 * a + b ∧ Q a b ∧ (∀ c : Int, 1 ≤ c → c ≤ 26 → ¬ Q c 0) ∧ (∀ c d : Int, 1 ≤ c → c < a → 1 ≤ d → d ≤ 26 → ¬ Q c d) ∧ ∀ d : Int, 1 ≤ d → d < b → ¬ Q a d) ∨ (r = -4 ∧ (∀ c : Int, 1 ≤ c → c ≤ 26 → ¬ Q c 0) ∧ ∀ c d : Int, 1 ≤ c → c ≤ 26 → 1 ≤ d → d ≤ 26 → ¬ Q c d)

theorem ok_X9_isFirstBy : yX9_isFirstBy.cls ≠ "java/lang/invoke/MethodHandle" ∧ yX9_isFirstBy.cls ≠ "java/lang/invoke/VarHandle" ∧ (parseMethodDescriptor yX9_isFirstBy.desc).map (fun d => d.parameters.length) = some 3 := ⟨by decide +kernel, by decide +kernel, by decide +kernel⟩
abbrev po_X9_isFirstBy (S : St)  (x : Int) (u : Int) (z : Int) : Int → St → Prop := fun r S1 => S1.2 = S.2 ∧ (∀ (c_ : Nat) (i : Int), ¬ (c_ = 8 ∧ i = 1) → ¬ c_ = 17 → ¬ c_ = 15 → ¬ (30 ≤ c_ ∧ c_ < 46) → ¬ c_ = 60 → S1.1 c_ i = S.1 c_ i) ∧ nxi S1.1 ∧ wdT S1.1 ∧ ((r = 1 ∧ fbP S.1 S.2 (S.1 51 0) x u z) ∨ (r = 0 ∧ ¬ fbP S.1 S.2 (S.1 51 0) x u z))
abbrev rm_X9_isFirstBy : Room := ({ frames := 5, cells := 0, slots := 0, locals := 113 } : Room)
set_option maxRecDepth 100000 in
set_option maxHeartbeats 4000000 in
theorem k_X9_isFirstBy (l : Launch) (G : Ge) (S : St)  (x : Int) (u : Int) (z : Int)  (hB : BI S) (hx : 0 ≤ x ∧ x < S.1 51 0) (hu : 1 ≤ u ∧ u ≤ 26) (hz : 0 ≤ z ∧ z ≤ 26) : Ki (KC G) l yX9_isFirstBy cX9_isFirstBy 5 .boolean rm_X9_isFirstBy [.ref (G.2.2 0), .int (iI x), .int (iI u), .int (iI z)] S (po_X9_isFirstBy S x u z) := by
  refine K_start (own := "NameSeeker") (by decide +kernel) rfl (Nat.le_of_ble_eq_true rfl) ?_
  intro p e s m args below meth c X hr hlk I ls hl
  have hl : lv_has ls 5 [(0, .ref (G.2.2 0)), (1, .int (iI x)), (2, .int (iI u)), (3, .int (iI z))] := hl
  obtain ⟨hln, hsc, hpi, hnm, hnx⟩ := hB
  obtain ⟨hn1, hn2, hn3, hn4, hn5, hn6, hn7⟩ := id (hnm x (by omega) (by omega))
  refine lv_aload_n X.1 X.2.1 dX9_isFirstBy_0 rfl (lv_at hl 0 rfl) ?_
  refine gC_ns_tried X I tb_381 dX9_isFirstBy_1 ?_
  refine cl_v I (runV (As := []) (rest := []) X (k_X8_clear l G S (1)   (by omega)) (gdC tb_369 (gdC tb_370 (gdC tb_371 (gdC tb_19 (gdC tb_372 gdB))))) ⟨ok_X8_clear, ⟨Nat.le_of_ble_eq_true rfl, Nat.le_of_ble_eq_true rfl⟩, rfl, rfl⟩ (PreV.of (C := RX8) (T := TX8) (N := 2) I (atC_word (w := 1) (by decide)) rfl) rfl hl.1 rfl (Nat.le_of_ble_eq_true rfl) dX9_isFirstBy_4 ⟨Nat.zero_le _, Nat.zero_le _⟩) (fun S2 H locs q3 I => ?_)
  rw [q3] at I
  have I : In (KC G) s s.heap H locs ((ua S.1 8 1 0), S.2) := I
  refine lv_aload_n X.1 X.2.1 dX9_isFirstBy_7 rfl (lv_at hl 0 rfl) ?_
  refine gC_ns_tried X I tb_381 dX9_isFirstBy_8 ?_
  refine ri_push X (v := 97) (by decide) dX9_isFirstBy_11 ?_
  refine lv_iload_n X.1 X.2.1 dX9_isFirstBy_13 rfl (lv_at hl 2 rfl) ?_
  refine ri_add X (v := (97 + u)) rfl dX9_isFirstBy_14 ?_
  refine ri_const X (v := 1) dX9_isFirstBy_15 ?_
  refine ri_sub X (v := ((97 + u) - 1)) rfl dX9_isFirstBy_16 ?_
  refine ri_i2c X (by omega) dX9_isFirstBy_17 ?_
  refine cl_v I (runV (As := [.int (iI ((97 + u) - 1))]) (rest := []) X (k_X8_add l G ((ua S.1 8 1 0), S.2) (1) ((97 + u) - 1)  (by decide) (by have h_ : (ua S.1 8 1 0) 8 1 = 0 := (by show (ua S.1 8 1 0) 8 1 = _; rw [ua_eq]); show 0 ≤ (ua S.1 8 1 0) 8 1 ∧ (ua S.1 8 1 0) 8 1 < 6; rw [h_]; decide) (by omega)) (gdC tb_433 (gdC tb_434 (gdC tb_435 (gdC tb_19 (gdC tb_436 gdB))))) ⟨ok_X8_add, ⟨Nat.le_of_ble_eq_true rfl, Nat.le_of_ble_eq_true rfl⟩, rfl, rfl⟩ (PreV.of (C := RX8) (T := TX8) (N := 2) I (atC_word (w := 1) (by decide)) rfl) rfl hl.1 rfl (Nat.le_of_ble_eq_true rfl) dX9_isFirstBy_18 ⟨Nat.zero_le _, Nat.zero_le _⟩) (fun S5 H locs q6 I => ?_)
  rw [q6] at I
  have I : In (KC G) s s.heap H locs ((ua (ua (ua S.1 8 1 0) (16 + 1) 0 ((97 + u) - 1)) 8 1 (0 + 1)), S.2) := I
  refine lv_iload_n X.1 X.2.1 dX9_isFirstBy_21 rfl (lv_at hl 3 rfl) ?_
  refine rz_le (tgt := 39) X (by omega) dX9_isFirstBy_22 (by decide) (fun c7 => ?_) (fun c7 => ?_)
  · skip
    obtain ⟨F1, hF1⟩ : ∃ F1 : Nat → Int → Int, F1 = (ua (ua (ua S.1 8 1 0) (16 + 1) 0 ((97 + u) - 1)) 8 1 (0 + 1)) := ⟨_, rfl⟩
    rw [← hF1] at I
    have hT0 : ∀ (c_ : Nat) (i : Int), ¬ (c_ = 8 ∧ i = 1) → ¬ c_ = 17 → F1 c_ i = S.1 c_ i := fun c_ i h1 h2 => by rw [hF1]; repeat (first | rw [ua_nc h2] | rw [ua_at, if_neg h1])
    have hT8 : F1 8 1 = tm z := by rw [hF1]; unfold tm; first | (rw [if_pos (by omega), ua_eq]; omega) | (rw [if_neg (by omega), ua_eq]; omega)
    have hTf : ∀ i : Int, 0 ≤ i → i < tm z → F1 (16 + 1) i = tf u z i := fun i h1 h2 => by
      unfold tm at h2
      rw [hF1]; unfold tf
      by_cases hi : i = 0
      · subst hi; rw [if_pos rfl]; repeat (first | rw [ua_eq] | rw [ua_nc (by decide)] | rw [ua_ni (by decide)])
      · have h3 : i = 1 := (by split at h2 <;> omega)
        subst h3; rw [if_neg hi]; first | (exfalso; split at h2 <;> omega) | (rw [ua_nc (by decide), show ((0 : Int) + 1) = 1 from rfl, ua_eq])
    have htm : 0 ≤ tm z ∧ tm z ≤ 6 := by unfold tm; split <;> omega
    have hTL : ∀ i : Int, 0 ≤ i → i < tm z → ((97 ≤ F1 (16 + 1) i ∧ F1 (16 + 1) i ≤ 122) ∨ (65 ≤ F1 (16 + 1) i ∧ F1 (16 + 1) i ≤ 90)) := fun i h1 h2 => by rw [hTf i h1 h2]; unfold tm at h2; unfold tf; left; split <;> (split at h2 <;> omega)
    have hWL : wlb (F1 (16 + 1)) (tm z).toNat = wlb (tf u z) (tm z).toNat := wlb_congr _ (fun i h1 h2 => hTf i h1 (by omega))
    have I : In (KC G) s s.heap H locs (F1, S.2) := I
    refine lv_aload_n X.1 X.2.1 dX9_isFirstBy_39 rfl (lv_at hl 0 rfl) ?_
    refine gC_ns_lot X I tb_378 dX9_isFirstBy_40 ?_
    refine gC_lot_names X I tb_99 dX9_isFirstBy_43 ?_
    refine lv_iload_n X.1 X.2.1 dX9_isFirstBy_46 rfl (lv_at hl 1 rfl) ?_
    refine aC_names X I (by omega) dX9_isFirstBy_47 ?_
    refine lv_aload_n X.1 X.2.1 dX9_isFirstBy_48 rfl (lv_at hl 0 rfl) ?_
    refine gC_ns_tried X I tb_381 dX9_isFirstBy_49 ?_
    refine cl_i I (runV (As := [.ref (G.2.2 (6 + 2 * 1))]) (rest := []) X (k_X4_hasAll l G (F1, S.2) ((S.2 x.toNat)) (1) (tm z) (F1 (16 + 1)) (S.1 7 (((S.2 x.toNat) : Nat) : Int)) hT8 (fun i_ => rfl) (hT0 7 (((S.2 x.toNat) : Nat) : Int) (by omega) (by omega)) (hpi _ (by omega)) hn6 (by decide) htm hTL) (gdC tb_453 (gdC tb_454 (gdC tb_455 (gdC tb_17 (gdC tb_456 gdB))))) ⟨ok_X4_hasAll, ⟨Nat.le_of_ble_eq_true rfl, Nat.le_of_ble_eq_true rfl⟩, rfl, rfl⟩ (PreV.of (C := RX4) (T := TX4) (N := 7) I (atC_name (j := (S.2 x.toNat)) (hpi _ (by omega))) rfl) rfl hl.1 rfl (Nat.le_of_ble_eq_true rfl) dX9_isFirstBy_52 ⟨Nat.zero_le _, Nat.zero_le _⟩) (fun r8 S9 H locs q10 I => ?_)
    obtain ⟨e1_, e2_⟩ := q10
    rw [e2_] at I
    rw [e1_]
    clear e1_ e2_
    rcases Decidable.em (bandn (wlb (F1 (16 + 1)) ((tm z)).toNat) (S.1 7 (((S.2 x.toNat) : Nat) : Int)) = 0) with b11 | b11
    · rw [bI_t b11]
      refine rz_ne (tgt := 60) X (by omega) dX9_isFirstBy_55 (by decide) (fun _ => ?_) (fun c12 => absurd c12 (by decide))
      refine ri_const X (v := 0) dX9_isFirstBy_60 ?_
      refine lv_istore (lv' := [(4, .int (iI 0)), (0, .ref (G.2.2 0)), (1, .int (iI x)), (2, .int (iI u)), (3, .int (iI z))]) X.1 X.2.1 dX9_isFirstBy_61 hl (by decide) rfl (fun ls hl => ?_)
      have lp_63 : ∀ (fu_ : Nat) (n : Int) (U : Nat → Int → Int), (8 - n).toNat < fu_ → ∀ (hn : 0 ≤ n ∧ n ≤ S.1 51 0) (hfr : ∀ (c_ : Nat) (i : Int), ¬ c_ = 15 → ¬ (30 ≤ c_ ∧ c_ < 46) → ¬ c_ = 60 → U c_ i = F1 c_ i) (hsr : ∀ i : Int, 0 ≤ i → i < n → U 15 i = scT S.1 S.2 u z i) (hnU : nxi U) (H : Heap) (locs : List Loc), In (KC G) s s.heap H locs (U, S.2) → ∀ ls : Array Slot, lv_has ls 5 [(0, .ref (G.2.2 0)), (1, .int (iI x)), (2, .int (iI u)), (3, .int (iI z)), (4, .int (iI n))] → W p l e rm_X9_isFirstBy s m args below meth c H locs 0 0 (MQ below (QI (KC G) (po_X9_isFirstBy S x u z)) args s 0 0 (KC G).2.2.2) (F0 m 63 ls []) := by
        intro fu_
        induction fu_ with
        | zero => intro n U hm; exact absurd hm (by omega)
        | succ fu_ ih_63 =>
          intro n U hm_63 hn hfr hsr hnU H locs I ls hl
          refine lv_iload X.1 X.2.1 dX9_isFirstBy_63 (lv_at hl 4 rfl) ?_
          refine lv_aload_n X.1 X.2.1 dX9_isFirstBy_65 rfl (lv_at hl 0 rfl) ?_
          refine gC_ns_lot X I tb_378 dX9_isFirstBy_66 ?_
          refine gC_lot_size X I (v := (S.1 51 0)) ((hfr 51 0 (by omega) (by omega) (by omega)).trans (hT0 51 0 (by omega) (by omega))) tb_102 dX9_isFirstBy_69 ?_
          refine rj_ge (tgt := 116) X (by omega) (by omega) dX9_isFirstBy_72 (by decide) (fun c13 => ?_) (fun c13 => ?_)
          · skip
            refine lv_aload_n X.1 X.2.1 dX9_isFirstBy_116 rfl (lv_at hl 0 rfl) ?_
            refine gC_ns_ranking X I tb_386 dX9_isFirstBy_117 ?_
            refine lv_aload_n X.1 X.2.1 dX9_isFirstBy_120 rfl (lv_at hl 0 rfl) ?_
            refine gC_ns_lot X I tb_378 dX9_isFirstBy_121 ?_
            refine lv_iload_n X.1 X.2.1 dX9_isFirstBy_124 rfl (lv_at hl 1 rfl) ?_
            refine cl_i I (runV (As := [.ref (G.2.2 3), .int (iI x)]) (rest := []) X (k_X5_isFirst l G (U, S.2)  x (S.1 51 0) ((hfr 51 0 (by omega) (by omega) (by omega)).trans (hT0 51 0 (by omega) (by omega))) (by omega) (by omega) (fun i h1 h2 => by
    obtain ⟨q1, q2, q3, q4, q5, q6, q7⟩ := hnm i h1 h2
    refine ⟨hpi _ (by omega), ?_, ?_, ?_⟩
    · show -1000 ≤ U 15 i ∧ U 15 i ≤ 1000
      rw [hsr i h1 (by omega)]; exact wor_r hsc.1 hsc.2.1 hsc.2.2 ⟨Int.le_trans (by decide) q1.1, q1.2⟩ htm
    · show 0 ≤ U 5 _ ∧ U 5 _ ≤ 100000
      rw [hfr 5 _ (by decide) (by decide) (by decide), hT0 5 _ (by omega) (by decide)]; exact q4
    · show 0 ≤ U 2 _ ∧ U 2 _ ≤ 12
      rw [hfr 2 _ (by decide) (by decide) (by decide), hT0 2 _ (by omega) (by decide)]; exact ⟨Int.le_trans (by decide) q1.1, q1.2⟩)) (gdC tb_651 (gdC tb_652 (gdC tb_653 (gdC tb_23 (gdC tb_654 gdB))))) ⟨ok_X5_isFirst, ⟨Nat.le_of_ble_eq_true rfl, Nat.le_of_ble_eq_true rfl⟩, rfl, rfl⟩ (PreV.of (C := RX5) (T := TX5) (N := 3) I (atC_ranking) rfl) rfl hl.1 rfl (Nat.le_of_ble_eq_true rfl) dX9_isFirstBy_125 ⟨Nat.zero_le _, Nat.zero_le _⟩) (fun r14 V9 H locs q15 I => ?_)
            obtain ⟨hq_, e2_⟩ := q15
            rw [e2_] at I
            rcases hq_ with ⟨e1_, hF⟩ | ⟨e1_, hF⟩
            · rw [e1_]
              exact rt_i X hr hlk I (by rfl) (by exact ⟨rfl, fun c_ i h1 h2 h3 h4 h5 => (hfr c_ i h3 h4 h5).trans (hT0 c_ i h1 h2), hnU, wdT_of hT8 htm hTL (fun i => hfr 8 i (by decide) (by decide) (by decide)) (fun i => hfr (16 + 1) i (by decide) (by decide) (by decide)), Or.inl ⟨rfl, by rw [← hWL]; assumption, (fq_iff (F := S.1) (u := u) (z := z) (fun i h1 h2 => hsr i h1 (by omega)) (by omega) (fun i => (hfr 5 i (by decide) (by decide) (by decide)).trans (hT0 5 i (by omega) (by decide))) (fun i => (hfr 2 i (by decide) (by decide) (by decide)).trans (hT0 2 i (by omega) (by decide)))).mp hF⟩⟩) dX9_isFirstBy_128
            · rw [e1_]
              exact rt_i X hr hlk I (by rfl) (by exact ⟨rfl, fun c_ i h1 h2 h3 h4 h5 => (hfr c_ i h3 h4 h5).trans (hT0 c_ i h1 h2), hnU, wdT_of hT8 htm hTL (fun i => hfr 8 i (by decide) (by decide) (by decide)) (fun i => hfr (16 + 1) i (by decide) (by decide) (by decide)), Or.inr ⟨rfl, fun h => hF ((fq_iff (F := S.1) (u := u) (z := z) (fun i h1 h2 => hsr i h1 (by omega)) (by omega) (fun i => (hfr 5 i (by decide) (by decide) (by decide)).trans (hT0 5 i (by omega) (by decide))) (fun i => (hfr 2 i (by decide) (by decide) (by decide)).trans (hT0 2 i (by omega) (by decide)))).mpr h.2)⟩⟩) dX9_isFirstBy_128
          · skip
            have hpn := hpi n.toNat (by omega)
            obtain ⟨hk1, hk2, hk3, hk4, hk5, hk6, hk7⟩ := id (hnm n (by omega) (by omega))
            refine lv_aload_n X.1 X.2.1 dX9_isFirstBy_75 rfl (lv_at hl 0 rfl) ?_
            refine gC_ns_ranking X I tb_386 dX9_isFirstBy_76 ?_
            refine gC_ranking_scores X I tb_222 dX9_isFirstBy_79 ?_
            refine lv_iload X.1 X.2.1 dX9_isFirstBy_82 (lv_at hl 4 rfl) ?_
            refine lv_aload_n X.1 X.2.1 dX9_isFirstBy_84 rfl (lv_at hl 0 rfl) ?_
            refine gC_ns_laying X I tb_383 dX9_isFirstBy_85 ?_
            refine lv_aload_n X.1 X.2.1 dX9_isFirstBy_88 rfl (lv_at hl 0 rfl) ?_
            refine gC_ns_lot X I tb_378 dX9_isFirstBy_89 ?_
            refine gC_lot_names X I tb_99 dX9_isFirstBy_92 ?_
            refine lv_iload X.1 X.2.1 dX9_isFirstBy_95 (lv_at hl 4 rfl) ?_
            refine aC_names X I (by omega) dX9_isFirstBy_97 ?_
            refine lv_aload_n X.1 X.2.1 dX9_isFirstBy_98 rfl (lv_at hl 0 rfl) ?_
            refine gC_ns_tried X I tb_381 dX9_isFirstBy_99 ?_
            refine lv_aload_n X.1 X.2.1 dX9_isFirstBy_102 rfl (lv_at hl 0 rfl) ?_
            refine gC_ns_scales X I tb_379 dX9_isFirstBy_103 ?_
            refine cl_i I (runV (As := [.ref (G.2.2 (41 + 2 * S.2 n.toNat)), .ref (G.2.2 (6 + 2 * 1)), .ref (G.2.2 5)]) (rest := [.int (iI n), .ref (G.2.2 39)]) X (k_X2_workOut l G (U, S.2) ((S.2 n.toNat)) (1) (S.1 2 (((S.2 n.toNat) : Nat) : Int)) (S.1 3 (((S.2 n.toNat) : Nat) : Int)) (S.1 6 (((S.2 n.toNat) : Nat) : Int)) (S.1 (20 + (S.2 n.toNat))) (tm z) (F1 (16 + 1)) (S.1 53 0) (S.1 54 0) (S.1 55 0) ((hfr 2 (((S.2 n.toNat) : Nat) : Int) (by omega) (by omega) (by omega)).trans (hT0 2 (((S.2 n.toNat) : Nat) : Int) (by omega) (by omega))) ((hfr 3 (((S.2 n.toNat) : Nat) : Int) (by omega) (by omega) (by omega)).trans (hT0 3 (((S.2 n.toNat) : Nat) : Int) (by omega) (by omega))) ((hfr 6 (((S.2 n.toNat) : Nat) : Int) (by omega) (by omega) (by omega)).trans (hT0 6 (((S.2 n.toNat) : Nat) : Int) (by omega) (by omega))) (fun i_ => ((hfr (20 + (S.2 n.toNat)) i_ (by omega) (by omega) (by omega)).trans (hT0 (20 + (S.2 n.toNat)) i_ (by omega) (by omega)))) ((hfr 8 1 (by decide) (by decide) (by decide)).trans hT8) (fun i_ => (hfr (16 + 1) i_ (by omega) (by omega) (by omega))) ((hfr 53 0 (by omega) (by omega) (by omega)).trans (hT0 53 0 (by omega) (by omega))) ((hfr 54 0 (by omega) (by omega) (by omega)).trans (hT0 54 0 (by omega) (by omega))) ((hfr 55 0 (by omega) (by omega) (by omega)).trans (hT0 55 0 (by omega) (by omega))) (hpi _ (by omega)) (by omega) hk2 hk5 hsc.1 hsc.2.1 hsc.2.2 (by decide) htm hk7 hTL hnU) (gdC tb_555 (gdC tb_556 (gdC tb_557 (gdC tb_20 (gdC tb_558 gdB))))) ⟨ok_X2_workOut, ⟨Nat.le_of_ble_eq_true rfl, Nat.le_of_ble_eq_true rfl⟩, rfl, rfl⟩ (PreV.of (C := RX2) (T := TX2) (N := 4) I (atC_laying) rfl) rfl hl.1 rfl (Nat.le_of_ble_eq_true rfl) dX9_isFirstBy_106 ⟨Nat.zero_le _, Nat.zero_le _⟩) (fun r16 V H locs q17 I => ?_)
            obtain ⟨hA2, hAf, e1_, hA60, hArow, hAn⟩ := q17
            rw [e1_]
            obtain ⟨V1, V2⟩ := V
            dsimp only at hA2 hAf hA60 hArow hAn
            subst hA2
            have hwr := wor_r (sg := (S.1 (20 + (S.2 n.toNat)))) (f := (F1 (16 + 1))) (kd := (S.1 3 (((S.2 n.toNat) : Nat) : Int))) (bg := (S.1 6 (((S.2 n.toNat) : Nat) : Int))) (m := (tm z)) (n := (S.1 2 (((S.2 n.toNat) : Nat) : Int))) (b := (S.1 53 0)) (r := (S.1 54 0)) (g := (S.1 55 0)) (by omega) (by omega) (by omega) (by omega) (by omega)
            refine qC_rscores X I (by omega) dX9_isFirstBy_109 (fun H locs I => ?_)
            have I : In (KC G) s s.heap H locs ((ua V1 15 n (wor (S.1 (20 + (S.2 n.toNat))) (F1 (16 + 1)) (S.1 3 (((S.2 n.toNat) : Nat) : Int)) (S.1 6 (((S.2 n.toNat) : Nat) : Int)) (S.1 53 0) (S.1 54 0) (S.1 55 0) (S.1 2 (((S.2 n.toNat) : Nat) : Int)) (tm z))), S.2) := I
            refine ri_iinc X (k := 4) (v := (n + 1)) (lv' := [(4, .int (iI (n + 1))), (0, .ref (G.2.2 0)), (1, .int (iI x)), (2, .int (iI u)), (3, .int (iI z))]) rfl dX9_isFirstBy_110 hl rfl (by decide) rfl (fun ls hl => ?_)
            refine lv_goto (tgt := 63) X.1 X.2.1 dX9_isFirstBy_113 (by decide) ?_
            exact ih_63 (n + 1) (ua V1 15 n (wor (S.1 (20 + (S.2 n.toNat))) (F1 (16 + 1)) (S.1 3 (((S.2 n.toNat) : Nat) : Int)) (S.1 6 (((S.2 n.toNat) : Nat) : Int)) (S.1 53 0) (S.1 54 0) (S.1 55 0) (S.1 2 (((S.2 n.toNat) : Nat) : Int)) (tm z))) (by omega) (by omega) (fun c_ i h1 h2 h3 => (ua_nc h1).trans ((hAf c_ i (by omega) h3).trans (hfr c_ i h1 h2 h3))) (fun i h1 h2 => if hi : i = n then (by rw [hi, ua_eq]; exact wor_congr (fun k h3 h4 => hTf k h3 h4) htm.1) else (by rw [ua_ni hi, hAf 15 i (by decide) (by decide)]; exact hsr i h1 (by omega))) (nxi_ua (by decide) hAn) _ _ I ls (lv_sub hl [1, 2, 3, 4, 0] rfl)
      exact lp_63 (9) 0 F1 (by omega) (by omega) (fun _ _ _ _ _ => rfl) (fun i h1 h2 => absurd h2 (by omega)) (fun k q h1 h2 h3 => by rw [hT0 _ q (by omega) (by omega)]; exact hnx k q h1 h2 h3) _ _ I ls (lv_sub hl [1, 2, 3, 4, 0] rfl)
    · rw [bI_f b11]
      refine rz_ne (tgt := 60) X (by omega) dX9_isFirstBy_55 (by decide) (fun c18 => absurd c18 (by decide)) (fun _ => ?_)
      refine ri_const X (v := 0) dX9_isFirstBy_58 ?_
      exact rt_i X hr hlk I (by rfl) (by exact ⟨rfl, fun c_ i h1 h2 h3 h4 h5 => hT0 c_ i h1 h2, fun k q h1 h2 h3 => by show -1 ≤ F1 _ q ∧ F1 _ q < 12; rw [hT0 _ q (by omega) (by omega)]; exact hnx k q h1 h2 h3, wdT_of hT8 htm hTL (fun _ => rfl) (fun _ => rfl), Or.inr ⟨rfl, fun h => absurd h.1 (by rw [← hWL]; assumption)⟩⟩) dX9_isFirstBy_59
  · skip
    refine lv_aload_n X.1 X.2.1 dX9_isFirstBy_25 rfl (lv_at hl 0 rfl) ?_
    refine gC_ns_tried X I tb_381 dX9_isFirstBy_26 ?_
    refine ri_push X (v := 97) (by decide) dX9_isFirstBy_29 ?_
    refine lv_iload_n X.1 X.2.1 dX9_isFirstBy_31 rfl (lv_at hl 3 rfl) ?_
    refine ri_add X (v := (97 + z)) rfl dX9_isFirstBy_32 ?_
    refine ri_const X (v := 1) dX9_isFirstBy_33 ?_
    refine ri_sub X (v := ((97 + z) - 1)) rfl dX9_isFirstBy_34 ?_
    refine ri_i2c X (by omega) dX9_isFirstBy_35 ?_
    refine cl_v I (runV (As := [.int (iI ((97 + z) - 1))]) (rest := []) X (k_X8_add l G ((ua (ua (ua S.1 8 1 0) (16 + 1) 0 ((97 + u) - 1)) 8 1 (0 + 1)), S.2) (1) ((97 + z) - 1)  (by decide) (by have h_ : (ua (ua (ua S.1 8 1 0) (16 + 1) 0 ((97 + u) - 1)) 8 1 (0 + 1)) 8 1 = (0 + 1) := (by show (ua (ua (ua S.1 8 1 0) (16 + 1) 0 ((97 + u) - 1)) 8 1 (0 + 1)) 8 1 = _; rw [ua_eq]); show 0 ≤ (ua (ua (ua S.1 8 1 0) (16 + 1) 0 ((97 + u) - 1)) 8 1 (0 + 1)) 8 1 ∧ (ua (ua (ua S.1 8 1 0) (16 + 1) 0 ((97 + u) - 1)) 8 1 (0 + 1)) 8 1 < 6; rw [h_]; decide) (by omega)) (gdC tb_433 (gdC tb_434 (gdC tb_435 (gdC tb_19 (gdC tb_436 gdB))))) ⟨ok_X8_add, ⟨Nat.le_of_ble_eq_true rfl, Nat.le_of_ble_eq_true rfl⟩, rfl, rfl⟩ (PreV.of (C := RX8) (T := TX8) (N := 2) I (atC_word (w := 1) (by decide)) rfl) rfl hl.1 rfl (Nat.le_of_ble_eq_true rfl) dX9_isFirstBy_36 ⟨Nat.zero_le _, Nat.zero_le _⟩) (fun S20 H locs q21 I => ?_)
    rw [q21] at I
    have I : In (KC G) s s.heap H locs ((ua (ua (ua (ua (ua S.1 8 1 0) (16 + 1) 0 ((97 + u) - 1)) 8 1 (0 + 1)) (16 + 1) (0 + 1) ((97 + z) - 1)) 8 1 ((0 + 1) + 1)), S.2) := I
    obtain ⟨F1, hF1⟩ : ∃ F1 : Nat → Int → Int, F1 = (ua (ua (ua (ua (ua S.1 8 1 0) (16 + 1) 0 ((97 + u) - 1)) 8 1 (0 + 1)) (16 + 1) (0 + 1) ((97 + z) - 1)) 8 1 ((0 + 1) + 1)) := ⟨_, rfl⟩
    rw [← hF1] at I
    have hT0 : ∀ (c_ : Nat) (i : Int), ¬ (c_ = 8 ∧ i = 1) → ¬ c_ = 17 → F1 c_ i = S.1 c_ i := fun c_ i h1 h2 => by rw [hF1]; repeat (first | rw [ua_nc h2] | rw [ua_at, if_neg h1])
    have hT8 : F1 8 1 = tm z := by rw [hF1]; unfold tm; first | (rw [if_pos (by omega), ua_eq]; omega) | (rw [if_neg (by omega), ua_eq]; omega)
    have hTf : ∀ i : Int, 0 ≤ i → i < tm z → F1 (16 + 1) i = tf u z i := fun i h1 h2 => by
      unfold tm at h2
      rw [hF1]; unfold tf
      by_cases hi : i = 0
      · subst hi; rw [if_pos rfl]; repeat (first | rw [ua_eq] | rw [ua_nc (by decide)] | rw [ua_ni (by decide)])
      · have h3 : i = 1 := (by split at h2 <;> omega)
        subst h3; rw [if_neg hi]; first | (exfalso; split at h2 <;> omega) | (rw [ua_nc (by decide), show ((0 : Int) + 1) = 1 from rfl, ua_eq])
    have htm : 0 ≤ tm z ∧ tm z ≤ 6 := by unfold tm; split <;> omega
    have hTL : ∀ i : Int, 0 ≤ i → i < tm z → ((97 ≤ F1 (16 + 1) i ∧ F1 (16 + 1) i ≤ 122) ∨ (65 ≤ F1 (16 + 1) i ∧ F1 (16 + 1) i ≤ 90)) := fun i h1 h2 => by rw [hTf i h1 h2]; unfold tm at h2; unfold tf; left; split <;> (split at h2 <;> omega)
    have hWL : wlb (F1 (16 + 1)) (tm z).toNat = wlb (tf u z) (tm z).toNat := wlb_congr _ (fun i h1 h2 => hTf i h1 (by omega))
    have I : In (KC G) s s.heap H locs (F1, S.2) := I
    refine lv_aload_n X.1 X.2.1 dX9_isFirstBy_39 rfl (lv_at hl 0 rfl) ?_
    refine gC_ns_lot X I tb_378 dX9_isFirstBy_40 ?_
    refine gC_lot_names X I tb_99 dX9_isFirstBy_43 ?_
    refine lv_iload_n X.1 X.2.1 dX9_isFirstBy_46 rfl (lv_at hl 1 rfl) ?_
    refine aC_names X I (by omega) dX9_isFirstBy_47 ?_
    refine lv_aload_n X.1 X.2.1 dX9_isFirstBy_48 rfl (lv_at hl 0 rfl) ?_
    refine gC_ns_tried X I tb_381 dX9_isFirstBy_49 ?_
    refine cl_i I (runV (As := [.ref (G.2.2 (6 + 2 * 1))]) (rest := []) X (k_X4_hasAll l G (F1, S.2) ((S.2 x.toNat)) (1) (tm z) (F1 (16 + 1)) (S.1 7 (((S.2 x.toNat) : Nat) : Int)) hT8 (fun i_ => rfl) (hT0 7 (((S.2 x.toNat) : Nat) : Int) (by omega) (by omega)) (hpi _ (by omega)) hn6 (by decide) htm hTL) (gdC tb_453 (gdC tb_454 (gdC tb_455 (gdC tb_17 (gdC tb_456 gdB))))) ⟨ok_X4_hasAll, ⟨Nat.le_of_ble_eq_true rfl, Nat.le_of_ble_eq_true rfl⟩, rfl, rfl⟩ (PreV.of (C := RX4) (T := TX4) (N := 7) I (atC_name (j := (S.2 x.toNat)) (hpi _ (by omega))) rfl) rfl hl.1 rfl (Nat.le_of_ble_eq_true rfl) dX9_isFirstBy_52 ⟨Nat.zero_le _, Nat.zero_le _⟩) (fun r22 S23 H locs q24 I => ?_)
    obtain ⟨e1_, e2_⟩ := q24
    rw [e2_] at I
    rw [e1_]
    clear e1_ e2_
    rcases Decidable.em (bandn (wlb (F1 (16 + 1)) ((tm z)).toNat) (S.1 7 (((S.2 x.toNat) : Nat) : Int)) = 0) with b25 | b25
    · rw [bI_t b25]
      refine rz_ne (tgt := 60) X (by omega) dX9_isFirstBy_55 (by decide) (fun _ => ?_) (fun c26 => absurd c26 (by decide))
      refine ri_const X (v := 0) dX9_isFirstBy_60 ?_
      refine lv_istore (lv' := [(4, .int (iI 0)), (0, .ref (G.2.2 0)), (1, .int (iI x)), (2, .int (iI u)), (3, .int (iI z))]) X.1 X.2.1 dX9_isFirstBy_61 hl (by decide) rfl (fun ls hl => ?_)
      have lp_63 : ∀ (fu_ : Nat) (n : Int) (U : Nat → Int → Int), (8 - n).toNat < fu_ → ∀ (hn : 0 ≤ n ∧ n ≤ S.1 51 0) (hfr : ∀ (c_ : Nat) (i : Int), ¬ c_ = 15 → ¬ (30 ≤ c_ ∧ c_ < 46) → ¬ c_ = 60 → U c_ i = F1 c_ i) (hsr : ∀ i : Int, 0 ≤ i → i < n → U 15 i = scT S.1 S.2 u z i) (hnU : nxi U) (H : Heap) (locs : List Loc), In (KC G) s s.heap H locs (U, S.2) → ∀ ls : Array Slot, lv_has ls 5 [(0, .ref (G.2.2 0)), (1, .int (iI x)), (2, .int (iI u)), (3, .int (iI z)), (4, .int (iI n))] → W p l e rm_X9_isFirstBy s m args below meth c H locs 0 0 (MQ below (QI (KC G) (po_X9_isFirstBy S x u z)) args s 0 0 (KC G).2.2.2) (F0 m 63 ls []) := by
        intro fu_
        induction fu_ with
        | zero => intro n U hm; exact absurd hm (by omega)
        | succ fu_ ih_63 =>
          intro n U hm_63 hn hfr hsr hnU H locs I ls hl
          refine lv_iload X.1 X.2.1 dX9_isFirstBy_63 (lv_at hl 4 rfl) ?_
          refine lv_aload_n X.1 X.2.1 dX9_isFirstBy_65 rfl (lv_at hl 0 rfl) ?_
          refine gC_ns_lot X I tb_378 dX9_isFirstBy_66 ?_
          refine gC_lot_size X I (v := (S.1 51 0)) ((hfr 51 0 (by omega) (by omega) (by omega)).trans (hT0 51 0 (by omega) (by omega))) tb_102 dX9_isFirstBy_69 ?_
          refine rj_ge (tgt := 116) X (by omega) (by omega) dX9_isFirstBy_72 (by decide) (fun c27 => ?_) (fun c27 => ?_)
          · skip
            refine lv_aload_n X.1 X.2.1 dX9_isFirstBy_116 rfl (lv_at hl 0 rfl) ?_
            refine gC_ns_ranking X I tb_386 dX9_isFirstBy_117 ?_
            refine lv_aload_n X.1 X.2.1 dX9_isFirstBy_120 rfl (lv_at hl 0 rfl) ?_
            refine gC_ns_lot X I tb_378 dX9_isFirstBy_121 ?_
            refine lv_iload_n X.1 X.2.1 dX9_isFirstBy_124 rfl (lv_at hl 1 rfl) ?_
            refine cl_i I (runV (As := [.ref (G.2.2 3), .int (iI x)]) (rest := []) X (k_X5_isFirst l G (U, S.2)  x (S.1 51 0) ((hfr 51 0 (by omega) (by omega) (by omega)).trans (hT0 51 0 (by omega) (by omega))) (by omega) (by omega) (fun i h1 h2 => by
    obtain ⟨q1, q2, q3, q4, q5, q6, q7⟩ := hnm i h1 h2
    refine ⟨hpi _ (by omega), ?_, ?_, ?_⟩
    · show -1000 ≤ U 15 i ∧ U 15 i ≤ 1000
      rw [hsr i h1 (by omega)]; exact wor_r hsc.1 hsc.2.1 hsc.2.2 ⟨Int.le_trans (by decide) q1.1, q1.2⟩ htm
    · show 0 ≤ U 5 _ ∧ U 5 _ ≤ 100000
      rw [hfr 5 _ (by decide) (by decide) (by decide), hT0 5 _ (by omega) (by decide)]; exact q4
    · show 0 ≤ U 2 _ ∧ U 2 _ ≤ 12
      rw [hfr 2 _ (by decide) (by decide) (by decide), hT0 2 _ (by omega) (by decide)]; exact ⟨Int.le_trans (by decide) q1.1, q1.2⟩)) (gdC tb_651 (gdC tb_652 (gdC tb_653 (gdC tb_23 (gdC tb_654 gdB))))) ⟨ok_X5_isFirst, ⟨Nat.le_of_ble_eq_true rfl, Nat.le_of_ble_eq_true rfl⟩, rfl, rfl⟩ (PreV.of (C := RX5) (T := TX5) (N := 3) I (atC_ranking) rfl) rfl hl.1 rfl (Nat.le_of_ble_eq_true rfl) dX9_isFirstBy_125 ⟨Nat.zero_le _, Nat.zero_le _⟩) (fun r28 V9 H locs q29 I => ?_)
            obtain ⟨hq_, e2_⟩ := q29
            rw [e2_] at I
            rcases hq_ with ⟨e1_, hF⟩ | ⟨e1_, hF⟩
            · rw [e1_]
              exact rt_i X hr hlk I (by rfl) (by exact ⟨rfl, fun c_ i h1 h2 h3 h4 h5 => (hfr c_ i h3 h4 h5).trans (hT0 c_ i h1 h2), hnU, wdT_of hT8 htm hTL (fun i => hfr 8 i (by decide) (by decide) (by decide)) (fun i => hfr (16 + 1) i (by decide) (by decide) (by decide)), Or.inl ⟨rfl, by rw [← hWL]; assumption, (fq_iff (F := S.1) (u := u) (z := z) (fun i h1 h2 => hsr i h1 (by omega)) (by omega) (fun i => (hfr 5 i (by decide) (by decide) (by decide)).trans (hT0 5 i (by omega) (by decide))) (fun i => (hfr 2 i (by decide) (by decide) (by decide)).trans (hT0 2 i (by omega) (by decide)))).mp hF⟩⟩) dX9_isFirstBy_128
            · rw [e1_]
              exact rt_i X hr hlk I (by rfl) (by exact ⟨rfl, fun c_ i h1 h2 h3 h4 h5 => (hfr c_ i h3 h4 h5).trans (hT0 c_ i h1 h2), hnU, wdT_of hT8 htm hTL (fun i => hfr 8 i (by decide) (by decide) (by decide)) (fun i => hfr (16 + 1) i (by decide) (by decide) (by decide)), Or.inr ⟨rfl, fun h => hF ((fq_iff (F := S.1) (u := u) (z := z) (fun i h1 h2 => hsr i h1 (by omega)) (by omega) (fun i => (hfr 5 i (by decide) (by decide) (by decide)).trans (hT0 5 i (by omega) (by decide))) (fun i => (hfr 2 i (by decide) (by decide) (by decide)).trans (hT0 2 i (by omega) (by decide)))).mpr h.2)⟩⟩) dX9_isFirstBy_128
          · skip
            have hpn := hpi n.toNat (by omega)
            obtain ⟨hk1, hk2, hk3, hk4, hk5, hk6, hk7⟩ := id (hnm n (by omega) (by omega))
            refine lv_aload_n X.1 X.2.1 dX9_isFirstBy_75 rfl (lv_at hl 0 rfl) ?_
            refine gC_ns_ranking X I tb_386 dX9_isFirstBy_76 ?_
            refine gC_ranking_scores X I tb_222 dX9_isFirstBy_79 ?_
            refine lv_iload X.1 X.2.1 dX9_isFirstBy_82 (lv_at hl 4 rfl) ?_
            refine lv_aload_n X.1 X.2.1 dX9_isFirstBy_84 rfl (lv_at hl 0 rfl) ?_
            refine gC_ns_laying X I tb_383 dX9_isFirstBy_85 ?_
            refine lv_aload_n X.1 X.2.1 dX9_isFirstBy_88 rfl (lv_at hl 0 rfl) ?_
            refine gC_ns_lot X I tb_378 dX9_isFirstBy_89 ?_
            refine gC_lot_names X I tb_99 dX9_isFirstBy_92 ?_
            refine lv_iload X.1 X.2.1 dX9_isFirstBy_95 (lv_at hl 4 rfl) ?_
            refine aC_names X I (by omega) dX9_isFirstBy_97 ?_
            refine lv_aload_n X.1 X.2.1 dX9_isFirstBy_98 rfl (lv_at hl 0 rfl) ?_
            refine gC_ns_tried X I tb_381 dX9_isFirstBy_99 ?_
            refine lv_aload_n X.1 X.2.1 dX9_isFirstBy_102 rfl (lv_at hl 0 rfl) ?_
            refine gC_ns_scales X I tb_379 dX9_isFirstBy_103 ?_
            refine cl_i I (runV (As := [.ref (G.2.2 (41 + 2 * S.2 n.toNat)), .ref (G.2.2 (6 + 2 * 1)), .ref (G.2.2 5)]) (rest := [.int (iI n), .ref (G.2.2 39)]) X (k_X2_workOut l G (U, S.2) ((S.2 n.toNat)) (1) (S.1 2 (((S.2 n.toNat) : Nat) : Int)) (S.1 3 (((S.2 n.toNat) : Nat) : Int)) (S.1 6 (((S.2 n.toNat) : Nat) : Int)) (S.1 (20 + (S.2 n.toNat))) (tm z) (F1 (16 + 1)) (S.1 53 0) (S.1 54 0) (S.1 55 0) ((hfr 2 (((S.2 n.toNat) : Nat) : Int) (by omega) (by omega) (by omega)).trans (hT0 2 (((S.2 n.toNat) : Nat) : Int) (by omega) (by omega))) ((hfr 3 (((S.2 n.toNat) : Nat) : Int) (by omega) (by omega) (by omega)).trans (hT0 3 (((S.2 n.toNat) : Nat) : Int) (by omega) (by omega))) ((hfr 6 (((S.2 n.toNat) : Nat) : Int) (by omega) (by omega) (by omega)).trans (hT0 6 (((S.2 n.toNat) : Nat) : Int) (by omega) (by omega))) (fun i_ => ((hfr (20 + (S.2 n.toNat)) i_ (by omega) (by omega) (by omega)).trans (hT0 (20 + (S.2 n.toNat)) i_ (by omega) (by omega)))) ((hfr 8 1 (by decide) (by decide) (by decide)).trans hT8) (fun i_ => (hfr (16 + 1) i_ (by omega) (by omega) (by omega))) ((hfr 53 0 (by omega) (by omega) (by omega)).trans (hT0 53 0 (by omega) (by omega))) ((hfr 54 0 (by omega) (by omega) (by omega)).trans (hT0 54 0 (by omega) (by omega))) ((hfr 55 0 (by omega) (by omega) (by omega)).trans (hT0 55 0 (by omega) (by omega))) (hpi _ (by omega)) (by omega) hk2 hk5 hsc.1 hsc.2.1 hsc.2.2 (by decide) htm hk7 hTL hnU) (gdC tb_555 (gdC tb_556 (gdC tb_557 (gdC tb_20 (gdC tb_558 gdB))))) ⟨ok_X2_workOut, ⟨Nat.le_of_ble_eq_true rfl, Nat.le_of_ble_eq_true rfl⟩, rfl, rfl⟩ (PreV.of (C := RX2) (T := TX2) (N := 4) I (atC_laying) rfl) rfl hl.1 rfl (Nat.le_of_ble_eq_true rfl) dX9_isFirstBy_106 ⟨Nat.zero_le _, Nat.zero_le _⟩) (fun r30 V H locs q31 I => ?_)
            obtain ⟨hA2, hAf, e1_, hA60, hArow, hAn⟩ := q31
            rw [e1_]
            obtain ⟨V1, V2⟩ := V
            dsimp only at hA2 hAf hA60 hArow hAn
            subst hA2
            have hwr := wor_r (sg := (S.1 (20 + (S.2 n.toNat)))) (f := (F1 (16 + 1))) (kd := (S.1 3 (((S.2 n.toNat) : Nat) : Int))) (bg := (S.1 6 (((S.2 n.toNat) : Nat) : Int))) (m := (tm z)) (n := (S.1 2 (((S.2 n.toNat) : Nat) : Int))) (b := (S.1 53 0)) (r := (S.1 54 0)) (g := (S.1 55 0)) (by omega) (by omega) (by omega) (by omega) (by omega)
            refine qC_rscores X I (by omega) dX9_isFirstBy_109 (fun H locs I => ?_)
            have I : In (KC G) s s.heap H locs ((ua V1 15 n (wor (S.1 (20 + (S.2 n.toNat))) (F1 (16 + 1)) (S.1 3 (((S.2 n.toNat) : Nat) : Int)) (S.1 6 (((S.2 n.toNat) : Nat) : Int)) (S.1 53 0) (S.1 54 0) (S.1 55 0) (S.1 2 (((S.2 n.toNat) : Nat) : Int)) (tm z))), S.2) := I
            refine ri_iinc X (k := 4) (v := (n + 1)) (lv' := [(4, .int (iI (n + 1))), (0, .ref (G.2.2 0)), (1, .int (iI x)), (2, .int (iI u)), (3, .int (iI z))]) rfl dX9_isFirstBy_110 hl rfl (by decide) rfl (fun ls hl => ?_)
            refine lv_goto (tgt := 63) X.1 X.2.1 dX9_isFirstBy_113 (by decide) ?_
            exact ih_63 (n + 1) (ua V1 15 n (wor (S.1 (20 + (S.2 n.toNat))) (F1 (16 + 1)) (S.1 3 (((S.2 n.toNat) : Nat) : Int)) (S.1 6 (((S.2 n.toNat) : Nat) : Int)) (S.1 53 0) (S.1 54 0) (S.1 55 0) (S.1 2 (((S.2 n.toNat) : Nat) : Int)) (tm z))) (by omega) (by omega) (fun c_ i h1 h2 h3 => (ua_nc h1).trans ((hAf c_ i (by omega) h3).trans (hfr c_ i h1 h2 h3))) (fun i h1 h2 => if hi : i = n then (by rw [hi, ua_eq]; exact wor_congr (fun k h3 h4 => hTf k h3 h4) htm.1) else (by rw [ua_ni hi, hAf 15 i (by decide) (by decide)]; exact hsr i h1 (by omega))) (nxi_ua (by decide) hAn) _ _ I ls (lv_sub hl [1, 2, 3, 4, 0] rfl)
      exact lp_63 (9) 0 F1 (by omega) (by omega) (fun _ _ _ _ _ => rfl) (fun i h1 h2 => absurd h2 (by omega)) (fun k q h1 h2 h3 => by rw [hT0 _ q (by omega) (by omega)]; exact hnx k q h1 h2 h3) _ _ I ls (lv_sub hl [1, 2, 3, 4, 0] rfl)
    · rw [bI_f b25]
      refine rz_ne (tgt := 60) X (by omega) dX9_isFirstBy_55 (by decide) (fun c32 => absurd c32 (by decide)) (fun _ => ?_)
      refine ri_const X (v := 0) dX9_isFirstBy_58 ?_
      exact rt_i X hr hlk I (by rfl) (by exact ⟨rfl, fun c_ i h1 h2 h3 h4 h5 => hT0 c_ i h1 h2, fun k q h1 h2 h3 => by show -1 ≤ F1 _ q ∧ F1 _ q < 12; rw [hT0 _ q (by omega) (by omega)]; exact hnx k q h1 h2 h3, wdT_of hT8 htm hTL (fun _ => rfl) (fun _ => rfl), Or.inr ⟨rfl, fun h => absurd h.1 (by rw [← hWL]; assumption)⟩⟩) dX9_isFirstBy_59

theorem ok_X9_brief : yX9_brief.cls ≠ "java/lang/invoke/MethodHandle" ∧ yX9_brief.cls ≠ "java/lang/invoke/VarHandle" ∧ (parseMethodDescriptor yX9_brief.desc).map (fun d => d.parameters.length) = some 1 := ⟨by decide +kernel, by decide +kernel, by decide +kernel⟩
abbrev po_X9_brief (S : St)  (x : Int) : Int → St → Prop := fun r S1 => S1.2 = S.2 ∧ (∀ (c_ : Nat) (i : Int), ¬ (c_ = 8 ∧ i = 1) → ¬ c_ = 17 → ¬ c_ = 15 → ¬ (30 ≤ c_ ∧ c_ < 46) → ¬ c_ = 60 → S1.1 c_ i = S.1 c_ i) ∧ nxi S1.1 ∧ wdT S1.1 ∧ ((¬ (0 ≤ x ∧ x < S.1 51 0) ∧ r = -1) ∨ ((0 ≤ x ∧ x < S.1 51 0) ∧ briP (fun u z => fbP S.1 S.2 (S.1 51 0) x u z) r))
abbrev rm_X9_brief : Room := ({ frames := 6, cells := 0, slots := 0, locals := 137 } : Room)
set_option maxRecDepth 100000 in
set_option maxHeartbeats 4000000 in
theorem k_X9_brief (l : Launch) (G : Ge) (S : St)  (x : Int)  (hx : -2147483648 ≤ x ∧ x < 2147483648) (N_ : Int) (hI : CI S N_) : Ki (KC G) l yX9_brief cX9_brief 4 .int rm_X9_brief [.ref (G.2.2 0), .int (iI x)] S (po_X9_brief S x) := by
  refine K_start (own := "NameSeeker") (by decide +kernel) rfl (Nat.le_of_ble_eq_true rfl) ?_
  intro p e s m args below meth c X hr hlk I ls hl
  have hl : lv_has ls 4 [(0, .ref (G.2.2 0)), (1, .int (iI x))] := hl
  have hB0 : BI S := CI_BI hI
  obtain ⟨ht, hc, hln, hsc, hcn, hpi, hinj, hnm, hwd, hkn, has, hnx⟩ := hI
  have hw1 : wdT S.1 := hwd 1 (by decide)
  refine lv_aload_n X.1 X.2.1 dX9_brief_0 rfl (lv_at hl 0 rfl) ?_
  refine gC_ns_lot X I tb_378 dX9_brief_1 ?_
  refine lv_iload_n X.1 X.2.1 dX9_brief_4 rfl (lv_at hl 1 rfl) ?_
  refine cl_i I (runV (As := [.int (iI x)]) (rest := []) X (k_X3_has l G S  x (S.1 51 0) rfl (by omega) (by omega)) (gdC tb_425 (gdC tb_426 (gdC tb_427 (gdC tb_16 (gdC tb_428 gdB))))) ⟨ok_X3_has, ⟨Nat.le_of_ble_eq_true rfl, Nat.le_of_ble_eq_true rfl⟩, rfl, rfl⟩ (PreV.of (C := RX3) (T := TX3) (N := 3) I (atC_lot) rfl) rfl hl.1 rfl (Nat.le_of_ble_eq_true rfl) dX9_brief_5 ⟨Nat.zero_le _, Nat.zero_le _⟩) (fun r1 S2 H locs q3 I => ?_)
  obtain ⟨e1_, e2_⟩ := q3
  rw [e2_] at I
  rw [e1_]
  clear e1_ e2_
  rcases Decidable.em ((0 ≤ x ∧ x < (S.1 51 0))) with b4 | b4
  · rw [bI_t b4]
    refine rz_ne (tgt := 13) X (by omega) dX9_brief_8 (by decide) (fun _ => ?_) (fun c5 => absurd c5 (by decide))
    refine ri_const X (v := 1) dX9_brief_13 ?_
    refine lv_istore_n (lv' := [(2, .int (iI 1)), (0, .ref (G.2.2 0)), (1, .int (iI x))]) X.1 X.2.1 dX9_brief_14 rfl hl (by decide) rfl (fun ls hl => ?_)
    have lp_15 : ∀ (fu_ : Nat) (u : Int) (U : Nat → Int → Int), (27 - u).toNat < fu_ → ∀ (hu : 1 ≤ u ∧ u ≤ 27) (hfr : ∀ (c_ : Nat) (i : Int), ¬ (c_ = 8 ∧ i = 1) → ¬ c_ = 17 → ¬ c_ = 15 → ¬ (30 ≤ c_ ∧ c_ < 46) → ¬ c_ = 60 → U c_ i = S.1 c_ i) (hnU : nxi U) (hwU : wdT U) (hno : ∀ a : Int, 1 ≤ a → a < u → ¬ fbP S.1 S.2 (S.1 51 0) x a 0) (H : Heap) (locs : List Loc), In (KC G) s s.heap H locs (U, S.2) → ∀ ls : Array Slot, lv_has ls 4 [(0, .ref (G.2.2 0)), (1, .int (iI x)), (2, .int (iI u))] → W p l e rm_X9_brief s m args below meth c H locs 0 0 (MQ below (QI (KC G) (po_X9_brief S x)) args s 0 0 (KC G).2.2.2) (F0 m 15 ls []) := by
      intro fu_
      induction fu_ with
      | zero => intro u U hm; exact absurd hm (by omega)
      | succ fu_ ih_15 =>
        intro u U hm_15 hu hfr hnU hwU hno H locs I ls hl
        refine lv_iload_n X.1 X.2.1 dX9_brief_15 rfl (lv_at hl 2 rfl) ?_
        refine ri_push X (v := 26) (by decide) dX9_brief_16 ?_
        refine rj_gt (tgt := 42) X (by omega) (by omega) dX9_brief_18 (by decide) (fun c6 => ?_) (fun c6 => ?_)
        · skip
          refine ri_const X (v := 1) dX9_brief_42 ?_
          refine lv_istore_n (lv' := [(2, .int (iI 1)), (0, .ref (G.2.2 0)), (1, .int (iI x))]) X.1 X.2.1 dX9_brief_43 rfl hl (by decide) rfl (fun ls hl => ?_)
          have lp_44 : ∀ (fu_ : Nat) (u2 : Int) (U2 : Nat → Int → Int), (27 - u2).toNat < fu_ → ∀ (hu2 : 1 ≤ u2 ∧ u2 ≤ 27) (hfr2 : ∀ (c_ : Nat) (i : Int), ¬ (c_ = 8 ∧ i = 1) → ¬ c_ = 17 → ¬ c_ = 15 → ¬ (30 ≤ c_ ∧ c_ < 46) → ¬ c_ = 60 → U2 c_ i = S.1 c_ i) (hnU2 : nxi U2) (hwU2 : wdT U2) (hno2 : ∀ a b : Int, 1 ≤ a → a < u2 → 1 ≤ b → b ≤ 26 → ¬ fbP S.1 S.2 (S.1 51 0) x a b) (H : Heap) (locs : List Loc), In (KC G) s s.heap H locs (U2, S.2) → ∀ ls : Array Slot, lv_has ls 4 [(0, .ref (G.2.2 0)), (1, .int (iI x)), (2, .int (iI u2))] → W p l e rm_X9_brief s m args below meth c H locs 0 0 (MQ below (QI (KC G) (po_X9_brief S x)) args s 0 0 (KC G).2.2.2) (F0 m 44 ls []) := by
            intro fu_
            induction fu_ with
            | zero => intro u2 U2 hm; exact absurd hm (by omega)
            | succ fu_ ih_44 =>
              intro u2 U2 hm_44 hu2 hfr2 hnU2 hwU2 hno2 H locs I ls hl
              refine lv_iload_n X.1 X.2.1 dX9_brief_44 rfl (lv_at hl 2 rfl) ?_
              refine ri_push X (v := 26) (by decide) dX9_brief_45 ?_
              refine rj_gt (tgt := 87) X (by omega) (by omega) dX9_brief_47 (by decide) (fun c7 => ?_) (fun c7 => ?_)
              · skip
                refine ri_push X (v := (-4)) (by decide) dX9_brief_87 ?_
                exact rt_i X hr hlk I rfl (by exact ⟨rfl, hfr2, hnU2, hwU2, Or.inr ⟨by omega, Or.inr (Or.inr ⟨rfl, fun a h1 h2 => hno a h1 (by omega), fun a b h1 h2 => hno2 a b h1 (by omega)⟩)⟩⟩) dX9_brief_89
              · skip
                refine ri_const X (v := 1) dX9_brief_50 ?_
                refine lv_istore_n (lv' := [(3, .int (iI 1)), (0, .ref (G.2.2 0)), (1, .int (iI x)), (2, .int (iI u2))]) X.1 X.2.1 dX9_brief_51 rfl hl (by decide) rfl (fun ls hl => ?_)
                have lp_52 : ∀ (fu_ : Nat) (z : Int) (U : Nat → Int → Int), (27 - z).toNat < fu_ → ∀ (hz : 1 ≤ z ∧ z ≤ 27) (hfr : ∀ (c_ : Nat) (i : Int), ¬ (c_ = 8 ∧ i = 1) → ¬ c_ = 17 → ¬ c_ = 15 → ¬ (30 ≤ c_ ∧ c_ < 46) → ¬ c_ = 60 → U c_ i = S.1 c_ i) (hnU : nxi U) (hwU : wdT U) (hno3 : ∀ b : Int, 1 ≤ b → b < z → ¬ fbP S.1 S.2 (S.1 51 0) x u2 b) (H : Heap) (locs : List Loc), In (KC G) s s.heap H locs (U, S.2) → ∀ ls : Array Slot, lv_has ls 4 [(0, .ref (G.2.2 0)), (1, .int (iI x)), (2, .int (iI u2)), (3, .int (iI z))] → W p l e rm_X9_brief s m args below meth c H locs 0 0 (MQ below (QI (KC G) (po_X9_brief S x)) args s 0 0 (KC G).2.2.2) (F0 m 52 ls []) := by
                  intro fu_
                  induction fu_ with
                  | zero => intro z U hm; exact absurd hm (by omega)
                  | succ fu_ ih_52 =>
                    intro z U hm_52 hz hfr hnU hwU hno3 H locs I ls hl
                    refine lv_iload_n X.1 X.2.1 dX9_brief_52 rfl (lv_at hl 3 rfl) ?_
                    refine ri_push X (v := 26) (by decide) dX9_brief_53 ?_
                    refine rj_gt (tgt := 81) X (by omega) (by omega) dX9_brief_55 (by decide) (fun c8 => ?_) (fun c8 => ?_)
                    · skip
                      refine ri_iinc X (k := 2) (v := (u2 + 1)) (lv' := [(2, .int (iI (u2 + 1))), (0, .ref (G.2.2 0)), (1, .int (iI x)), (3, .int (iI z))]) rfl dX9_brief_81 hl rfl (by decide) rfl (fun ls hl => ?_)
                      refine lv_goto (tgt := 44) X.1 X.2.1 dX9_brief_84 (by decide) ?_
                      exact ih_44 (u2 + 1) U (by omega) (by omega) (hfr) (hnU) (hwU) (fun a b h1 h2 h3 h4 => if ha : a = u2 then (by rw [ha]; exact hno3 b h3 (by omega)) else hno2 a b h1 (by omega) h3 h4) _ _ I ls (lv_sub hl [1, 2, 0] rfl)
                    · skip
                      refine lv_aload_n X.1 X.2.1 dX9_brief_58 rfl (lv_at hl 0 rfl) ?_
                      refine lv_iload_n X.1 X.2.1 dX9_brief_59 rfl (lv_at hl 1 rfl) ?_
                      refine lv_iload_n X.1 X.2.1 dX9_brief_60 rfl (lv_at hl 2 rfl) ?_
                      refine lv_iload_n X.1 X.2.1 dX9_brief_61 rfl (lv_at hl 3 rfl) ?_
                      refine cl_i I (runV (As := [.int (iI x), .int (iI u2), .int (iI z)]) (rest := []) X (k_X9_isFirstBy l G (U, S.2)  x u2 z  (BI_fr (F := S.1) (P := S.2) (fun c_ i h1 => hfr c_ i (by omega) (by omega) (by omega) (by omega) (by omega)) hnU hB0) (by show 0 ≤ x ∧ x < U 51 0; rw [hfr 51 0 (by omega) (by omega) (by omega) (by omega) (by omega)]; omega) (by omega) (by omega)) (gdC tb_647 (gdC tb_649 (gdC tb_12 (gdC tb_14 (gdC tb_650 gdB))))) ⟨ok_X9_isFirstBy, ⟨Nat.le_of_ble_eq_true rfl, Nat.le_of_ble_eq_true rfl⟩, rfl, rfl⟩ (PreV.of (C := RX9) (T := TX9) (N := 14) I (atC_ns) rfl) rfl hl.1 rfl (Nat.le_of_ble_eq_true rfl) dX9_brief_62 ⟨Nat.zero_le _, Nat.zero_le _⟩) (fun r9 S10 H locs q11 I => ?_)
                      obtain ⟨hA2, hAf, hAn, hAw, hq_⟩ := q11
                      obtain ⟨V1, V2⟩ := S10
                      dsimp only at hA2 hAf hAn hAw hq_
                      subst hA2
                      rw [fbP_congr (F := U) (F2 := S.1) (P := S.2) (fun c_ i h1 => hfr c_ i (by omega) (by omega) (by omega) (by omega) (by omega)) hpi (by omega)] at hq_
                      rcases hq_ with ⟨e1_, hF⟩ | ⟨e1_, hF⟩
                      · rw [e1_]
                        refine rz_eq (tgt := 75) X (by omega) dX9_brief_65 (by decide) (fun c12 => absurd c12 (by decide)) (fun _ => ?_)
                        refine ri_push X (v := 27) (by decide) dX9_brief_68 ?_
                        refine lv_iload_n X.1 X.2.1 dX9_brief_70 rfl (lv_at hl 2 rfl) ?_
                        refine ri_mul X (v := (27 * u2)) rfl dX9_brief_71 ?_
                        refine lv_iload_n X.1 X.2.1 dX9_brief_72 rfl (lv_at hl 3 rfl) ?_
                        refine ri_add X (v := ((27 * u2) + z)) rfl dX9_brief_73 ?_
                        exact rt_i X hr hlk I rfl (by exact ⟨rfl, fun c_ i h1 h2 h3 h4 h5 => (hAf c_ i h1 h2 h3 h4 h5).trans (hfr c_ i h1 h2 h3 h4 h5), hAn, hAw, Or.inr ⟨by omega, Or.inr (Or.inl ⟨u2, z, by omega, by omega, rfl, hF, fun a h1 h2 => hno a h1 (by omega), hno2, hno3⟩)⟩⟩) dX9_brief_74
                      · rw [e1_]
                        refine rz_eq (tgt := 75) X (by omega) dX9_brief_65 (by decide) (fun _ => ?_) (fun c13 => absurd c13 (fun q => q (by decide)))
                        refine ri_iinc X (k := 3) (v := (z + 1)) (lv' := [(3, .int (iI (z + 1))), (0, .ref (G.2.2 0)), (1, .int (iI x)), (2, .int (iI u2))]) rfl dX9_brief_75 hl rfl (by decide) rfl (fun ls hl => ?_)
                        refine lv_goto (tgt := 52) X.1 X.2.1 dX9_brief_78 (by decide) ?_
                        exact ih_52 (z + 1) V1 (by omega) (by omega) (fun c_ i h1 h2 h3 h4 h5 => (hAf c_ i h1 h2 h3 h4 h5).trans (hfr c_ i h1 h2 h3 h4 h5)) (hAn) (hAw) (fun b h1 h2 => if hb : b = z then (by rw [hb]; exact hF) else hno3 b h1 (by omega)) _ _ I ls (lv_sub hl [1, 2, 3, 0] rfl)
                exact lp_52 (28) 1 U2 (by omega) (by omega) (hfr2) (hnU2) (hwU2) (fun b h1 h2 => absurd h2 (by omega)) _ _ I ls (lv_sub hl [1, 2, 3, 0] rfl)
          exact lp_44 (28) 1 U (by omega) (by omega) (hfr) (hnU) (hwU) (fun a b h1 h2 => absurd h2 (by omega)) _ _ I ls (lv_sub hl [1, 2, 0] rfl)
        · skip
          refine lv_aload_n X.1 X.2.1 dX9_brief_21 rfl (lv_at hl 0 rfl) ?_
          refine lv_iload_n X.1 X.2.1 dX9_brief_22 rfl (lv_at hl 1 rfl) ?_
          refine lv_iload_n X.1 X.2.1 dX9_brief_23 rfl (lv_at hl 2 rfl) ?_
          refine ri_const X (v := 0) dX9_brief_24 ?_
          refine cl_i I (runV (As := [.int (iI x), .int (iI u), .int (iI 0)]) (rest := []) X (k_X9_isFirstBy l G (U, S.2)  x u 0  (BI_fr (F := S.1) (P := S.2) (fun c_ i h1 => hfr c_ i (by omega) (by omega) (by omega) (by omega) (by omega)) hnU hB0) (by show 0 ≤ x ∧ x < U 51 0; rw [hfr 51 0 (by omega) (by omega) (by omega) (by omega) (by omega)]; omega) (by omega) (by omega)) (gdC tb_647 (gdC tb_649 (gdC tb_12 (gdC tb_14 (gdC tb_650 gdB))))) ⟨ok_X9_isFirstBy, ⟨Nat.le_of_ble_eq_true rfl, Nat.le_of_ble_eq_true rfl⟩, rfl, rfl⟩ (PreV.of (C := RX9) (T := TX9) (N := 14) I (atC_ns) rfl) rfl hl.1 rfl (Nat.le_of_ble_eq_true rfl) dX9_brief_25 ⟨Nat.zero_le _, Nat.zero_le _⟩) (fun r14 S15 H locs q16 I => ?_)
          obtain ⟨hA2, hAf, hAn, hAw, hq_⟩ := q16
          obtain ⟨V1, V2⟩ := S15
          dsimp only at hA2 hAf hAn hAw hq_
          subst hA2
          rw [fbP_congr (F := U) (F2 := S.1) (P := S.2) (fun c_ i h1 => hfr c_ i (by omega) (by omega) (by omega) (by omega) (by omega)) hpi (by omega)] at hq_
          rcases hq_ with ⟨e1_, hF⟩ | ⟨e1_, hF⟩
          · rw [e1_]
            refine rz_eq (tgt := 36) X (by omega) dX9_brief_28 (by decide) (fun c17 => absurd c17 (by decide)) (fun _ => ?_)
            refine ri_push X (v := 27) (by decide) dX9_brief_31 ?_
            refine lv_iload_n X.1 X.2.1 dX9_brief_33 rfl (lv_at hl 2 rfl) ?_
            refine ri_mul X (v := (27 * u)) rfl dX9_brief_34 ?_
            exact rt_i X hr hlk I rfl (by exact ⟨rfl, fun c_ i h1 h2 h3 h4 h5 => (hAf c_ i h1 h2 h3 h4 h5).trans (hfr c_ i h1 h2 h3 h4 h5), hAn, hAw, Or.inr ⟨by omega, Or.inl ⟨u, by omega, rfl, hF, hno⟩⟩⟩) dX9_brief_35
          · rw [e1_]
            refine rz_eq (tgt := 36) X (by omega) dX9_brief_28 (by decide) (fun _ => ?_) (fun c18 => absurd c18 (fun q => q (by decide)))
            refine ri_iinc X (k := 2) (v := (u + 1)) (lv' := [(2, .int (iI (u + 1))), (0, .ref (G.2.2 0)), (1, .int (iI x))]) rfl dX9_brief_36 hl rfl (by decide) rfl (fun ls hl => ?_)
            refine lv_goto (tgt := 15) X.1 X.2.1 dX9_brief_39 (by decide) ?_
            exact ih_15 (u + 1) V1 (by omega) (by omega) (fun c_ i h1 h2 h3 h4 h5 => (hAf c_ i h1 h2 h3 h4 h5).trans (hfr c_ i h1 h2 h3 h4 h5)) (hAn) (hAw) (fun a h1 h2 => if ha : a = u then (by rw [ha]; exact hF) else hno a h1 (by omega)) _ _ I ls (lv_sub hl [1, 2, 0] rfl)
    exact lp_15 (28) 1 S.1 (by omega) (by omega) (fun _ _ _ _ _ _ _ => rfl) (hnx) (hw1) (fun a h1 h2 => absurd h2 (by omega)) _ _ I ls (lv_sub hl [1, 2, 0] rfl)
  · rw [bI_f b4]
    refine rz_ne (tgt := 13) X (by omega) dX9_brief_8 (by decide) (fun c19 => absurd c19 (by decide)) (fun _ => ?_)
    refine ri_const X (v := (-1)) dX9_brief_11 ?_
    exact rt_i X hr hlk I rfl (by exact ⟨rfl, fun _ _ _ _ _ _ _ => rfl, hnx, hw1, Or.inl ⟨by omega, rfl⟩⟩) dX9_brief_12
