theorem txq {U : Nat → Int → Int} {S : St} {P : Nat → Nat} (h : (∀ q : Int, U 0 q = S.1 0 q) ∧ U 50 0 = S.1 50 0) : txat (U, P) = txat S := by
  funext x
  unfold txat
  dsimp only
  simp only [h.1, h.2]
theorem txq_ht {U : Nat → Int → Int} {S : St} {P : Nat → Nat} (h : (∀ q : Int, U 0 q = S.1 0 q) ∧ U 50 0 = S.1 50 0) (ht : 0 ≤ S.1 50 0 ∧ S.1 50 0 ≤ 200) : 0 ≤ ((U, P) : St).1 50 0 ∧ ((U, P) : St).1 50 0 ≤ 200 := by
  show 0 ≤ U 50 0 ∧ U 50 0 ≤ 200
  rw [h.2]; exact ht
theorem txq_hc {U : Nat → Int → Int} {S : St} {P : Nat → Nat} (h : (∀ q : Int, U 0 q = S.1 0 q) ∧ U 50 0 = S.1 50 0) (hc : ∀ i : Int, 0 ≤ i → i < S.1 50 0 → 32 ≤ S.1 0 i ∧ S.1 0 i ≤ 126) : ∀ i : Int, 0 ≤ i → i < ((U, P) : St).1 50 0 → 32 ≤ ((U, P) : St).1 0 i ∧ ((U, P) : St).1 0 i ≤ 126 := fun i h1 h2 => by
  show 32 ≤ U 0 i ∧ U 0 i ≤ 126
  rw [h.1]
  exact hc i h1 (by rw [← h.2]; exact h2)
theorem bItm_s {f : Int → Int} {x : Int} (h : ¬ f x = 119) (hi : ¬ bItm f x = -1) : f x = 115 := by
  unfold bItm at hi
  by_cases q : f x = 115
  · exact q
  · rw [if_neg q, if_neg h] at hi; exact absurd rfl hi
theorem bItm_w {f : Int → Int} {x : Int} (h : f x = 119) (hi : ¬ bItm f x = -1) : (48 ≤ f (x + 1) ∧ f (x + 1) ≤ 48 + 9) ∧ (48 ≤ f (x + 3) ∧ f (x + 3) ≤ 48 + 9) ∧ (48 ≤ f (x + 5) ∧ f (x + 5) ≤ 48 + 9) := by
  unfold bItm at hi
  rw [if_neg (by omega), if_pos h] at hi
  unfold bWor at hi
  by_cases q : (48 ≤ f (x + 1) ∧ f (x + 1) ≤ 48 + 9) ∧ f (x + 2) = 44 ∧ (48 ≤ f (x + 3) ∧ f (x + 3) ≤ 48 + 9) ∧ f (x + 4) = 44 ∧ (48 ≤ f (x + 5) ∧ f (x + 5) ≤ 48 + 9) ∧ f (x + 6) = 59
  · exact ⟨q.1, q.2.2.1, q.2.2.2.2.1⟩
  · rw [if_neg q] at hi; exact absurd rfl hi
theorem bNam_v {f : Int → Int} {x : Int} (h : ¬ bNam f x = -1) : (48 ≤ f (x + 1) ∧ f (x + 1) ≤ 48 + 3) ∧ f (x + 2) = 44 ∧ 1 ≤ sgc f (x + 3) 13 ∧ sgc f (x + 3) 13 ≤ 12 ∧ f ((x + 3) + sgc f (x + 3) 13) = 59 := by
  unfold bNam at h
  by_cases q : (48 ≤ f (x + 1) ∧ f (x + 1) ≤ 48 + 3) ∧ f (x + 2) = 44 ∧ 1 ≤ sgc f (x + 3) 13 ∧ sgc f (x + 3) 13 ≤ 12 ∧ f ((x + 3) + sgc f (x + 3) 13) = 59
  · exact q
  · rw [if_neg q] at h; exact absurd rfl h
/-- a part of a name begins at place k -/
abbrev bgP (s : Int → Int) (k : Int) : Prop := ((97 ≤ s k ∧ s k ≤ 122) ∨ (65 ≤ s k ∧ s k ≤ 90)) ∧ (k = 0 ∨ s (k - 1) = 95 ∨ ((65 ≤ s k ∧ s k ≤ 90) ∧ (97 ≤ s (k - 1) ∧ s (k - 1) ≤ 122)))
def bgv (s : Int → Int) : Nat → Int
  | 0 => 0
  | k + 1 => if bgP s k then bor (bgv s k) (pw k) else bgv s k
def lbv (s : Int → Int) : Nat → Int
  | 0 => 0
  | k + 1 => if (97 ≤ s k ∧ s k ≤ 122) ∨ (65 ≤ s k ∧ s k ≤ 90) then bor (lbv s k) (pw (lnum (s k))) else lbv s k
theorem bgv_r (s : Int → Int) : ∀ k : Nat, k ≤ 12 → 0 ≤ bgv s k ∧ bgv s k < 2147483648
  | 0, _ => by rw [bgv]; omega
  | k + 1, h => by
    have h1 := bgv_r s k (by omega)
    rw [bgv]
    split
    · have h2 := pw_r (k := (k : Int)) (by omega)
      exact bor_r h1 (by omega)
    · exact h1
theorem lbv_r (s : Int → Int) : ∀ k : Nat, 0 ≤ lbv s k ∧ lbv s k < 2147483648
  | 0 => by rw [lbv]; omega
  | k + 1 => by
    have h1 := lbv_r s k
    rw [lbv]
    split
    · rename_i hq
      have h3 := lnum_l (s k) hq
      have h2 := pw_r (k := lnum (s k)) (by omega)
      exact bor_r h1 (by omega)
    · exact h1
/-- a sign comes behind a name -/
def adS (F : Nat → Int → Int) (j : Nat) (x : Int) : Nat → Int → Int :=
  ua (ua (ua (ua F 6 (j : Int) (if (((97 ≤ x ∧ x ≤ 122) ∨ (65 ≤ x ∧ x ≤ 90)) ∧ (F 2 (j : Int) = 0 ∨ F (20 + j) (F 2 (j : Int) - 1) = 95 ∨ ((65 ≤ x ∧ x ≤ 90) ∧ (97 ≤ F (20 + j) (F 2 (j : Int) - 1) ∧ F (20 + j) (F 2 (j : Int) - 1) ≤ 122)))) then bor (F 6 (j : Int)) (pw (F 2 (j : Int))) else F 6 (j : Int))) 7 (j : Int) (if ((97 ≤ x ∧ x ≤ 122) ∨ (65 ≤ x ∧ x ≤ 90)) then bor (F 7 (j : Int)) (pw (lnum x)) else F 7 (j : Int))) (20 + j) (F 2 (j : Int)) x) 2 (j : Int) (F 2 (j : Int) + 1)
theorem adS_fr {F : Nat → Int → Int} {j : Nat} {x : Int} {c : Nat} {i : Int} (h1 : ¬ c = 20 + j) (h2 : ¬ ((c = 2 ∨ c = 6 ∨ c = 7) ∧ i = (j : Int))) : adS F j x c i = F c i := by
  unfold adS
  rw [ua_at, if_neg (by omega), ua_nc h1, ua_at, if_neg (by omega), ua_at, if_neg (by omega)]
/-- a name, so many signs of it read -/
def nmI (F U : Nat → Int → Int) (j : Nat) (s : Int → Int) (i : Int) : Prop := U 2 (j : Int) = i ∧ U 6 (j : Int) = bgv s i.toNat ∧ U 7 (j : Int) = lbv s i.toNat ∧ (∀ k : Int, 0 ≤ k → k < i → U (20 + j) k = s k) ∧ ∀ (c_ : Nat) (q : Int), ¬ c_ = 20 + j → ¬ ((c_ = 2 ∨ c_ = 6 ∨ c_ = 7) ∧ q = (j : Int)) → U c_ q = F c_ q
theorem nmI_0 {F : Nat → Int → Int} {j : Nat} {s : Int → Int} (h2 : F 2 (j : Int) = 0) (h6 : F 6 (j : Int) = 0) (h7 : F 7 (j : Int) = 0) : nmI F F j s 0 := ⟨h2, h6, h7, fun k h1 h2 => absurd h2 (by omega), fun _ _ _ _ => rfl⟩
theorem nmI_s {F U : Nat → Int → Int} {j : Nat} {s : Int → Int} {i x : Int} (hi : 0 ≤ i) (hj : j < 8) (h12 : i < 12) (h : nmI F U j s i) (hx : x = s i) : nmI F (adS U j x) j s (i + 1) := by
  obtain ⟨h2, h6, h7, hk, hf⟩ := h
  have ei : ((i.toNat : Nat) : Int) = i := by omega
  refine ⟨?_, ?_, ?_, fun k a b => ?_, fun c_ q a b => (adS_fr a b).trans (hf c_ q a b)⟩
  · unfold adS; rw [ua_eq, h2]
  · unfold adS
    rw [ua_nc (by decide), ua_nc (by omega), ua_nc (by decide), ua_eq, h2, h6, show (i + 1).toNat = i.toNat + 1 by omega, bgv, ei, hx]
    have e : (((97 ≤ s i ∧ s i ≤ 122) ∨ (65 ≤ s i ∧ s i ≤ 90)) ∧ (i = 0 ∨ U (20 + j) (i - 1) = 95 ∨ ((65 ≤ s i ∧ s i ≤ 90) ∧ (97 ≤ U (20 + j) (i - 1) ∧ U (20 + j) (i - 1) ≤ 122)))) ↔ bgP s i := by
      unfold bgP
      by_cases h0 : i = 0
      · simp [h0]
      · rw [hk (i - 1) (by omega) (by omega)]
    by_cases hb : bgP s i
    · rw [if_pos (e.mpr hb), if_pos hb]
    · rw [if_neg (fun z => hb (e.mp z)), if_neg hb]
  · unfold adS
    rw [ua_nc (by decide), ua_nc (by omega), ua_eq, h7, show (i + 1).toNat = i.toNat + 1 by omega, lbv, ei, hx]
  · unfold adS
    rw [ua_nc (by omega)]
    by_cases hki : k = i
    · rw [hki, h2, ua_eq, hx]
    · rw [h2, ua_ni hki, ua_nc (by omega), ua_nc (by omega)]
      exact hk k a (by omega)
theorem nmI_z {F U : Nat → Int → Int} {j : Nat} {s : Int → Int} {i : Int} {P : Nat → Nat} (h : nmI F U j s i) (hi : 0 ≤ i ∧ i < 12) : 0 ≤ ((U, P) : St).1 2 (j : Int) ∧ ((U, P) : St).1 2 (j : Int) < 12 := by
  show 0 ≤ U 2 _ ∧ U 2 _ < 12
  rw [h.1]; exact hi
theorem nmI_sr {F U : Nat → Int → Int} {j : Nat} {s : Int → Int} {i : Int} {P : Nat → Nat} {Q : Int → Prop} (h : nmI F U j s i) (hs : ∀ k : Int, 0 ≤ s k ∧ s k ≤ 126 ∧ Q k) : ∀ k : Int, 0 ≤ k → k < ((U, P) : St).1 2 (j : Int) → 0 ≤ ((U, P) : St).1 (20 + j) k ∧ ((U, P) : St).1 (20 + j) k ≤ 126 := fun k a b => by
  show 0 ≤ U (20 + j) k ∧ U (20 + j) k ≤ 126
  have b2 : k < U 2 (j : Int) := b
  rw [h.1] at b2
  rw [h.2.2.2.1 k a b2]
  exact ⟨(hs k).1, (hs k).2.1⟩
theorem nmI_6 {F U : Nat → Int → Int} {j : Nat} {s : Int → Int} {i : Int} {P : Nat → Nat} (h : nmI F U j s i) (hi : i ≤ 12) : 0 ≤ ((U, P) : St).1 6 (j : Int) ∧ ((U, P) : St).1 6 (j : Int) < 2147483648 := by
  show 0 ≤ U 6 _ ∧ U 6 _ < _
  rw [h.2.1]; exact bgv_r s _ (by omega)
theorem nmI_7 {F U : Nat → Int → Int} {j : Nat} {s : Int → Int} {i : Int} {P : Nat → Nat} {Q : Int → Prop} (h : nmI F U j s i) (hi : i ≤ 12) (hs : ∀ k : Int, 0 ≤ s k ∧ s k ≤ 126 ∧ Q k) : 0 ≤ ((U, P) : St).1 7 (j : Int) ∧ ((U, P) : St).1 7 (j : Int) < 2147483648 := by
  show 0 ≤ U 7 _ ∧ U 7 _ < _
  rw [h.2.2.1]; exact lbv_r s _
/-- the object j holds the name that is told at x -/
def laid (V : Nat → Int → Int) (j : Nat) (t : Int → Int) (x id : Int) : Prop := V 2 (j : Int) = sgc t (x + 3) 13 ∧ V 3 (j : Int) = t (x + 1) - 48 ∧ V 4 (j : Int) = id ∧ V 5 (j : Int) = 0 ∧ V 6 (j : Int) = bgv (fun k => t ((x + 3) + k)) (sgc t (x + 3) 13).toNat ∧ V 7 (j : Int) = lbv (fun k => t ((x + 3) + k)) (sgc t (x + 3) 13).toNat ∧ ∀ k : Int, 0 ≤ k → k < sgc t (x + 3) 13 → V (20 + j) k = t ((x + 3) + k)
/-- a name was laid -/
def nmP (F V : Nat → Int → Int) (j : Nat) (t : Int → Int) (x : Int) : Prop := V 51 0 = F 51 0 + 1 ∧ V 52 0 = F 52 0 + 1 ∧ laid V j t x (F 52 0) ∧ ∀ (c_ : Nat) (i : Int), ¬ c_ = 20 + j → ¬ ((2 ≤ c_ ∧ c_ ≤ 7) ∧ i = (j : Int)) → ¬ c_ = 51 → ¬ c_ = 52 → V c_ i = F c_ i
theorem nmP_of {F F1 U : Nat → Int → Int} {j : Nat} {t : Int → Int} {x i : Int} (h : nmI F1 U j (fun k => t ((x + 3) + k)) i) (h0 : ∀ (c_ : Nat) (i : Int), ¬ ((2 ≤ c_ ∧ c_ ≤ 7) ∧ i = (j : Int)) → ¬ c_ = 51 → ¬ c_ = 52 → F1 c_ i = F c_ i) (h3 : F1 3 (j : Int) = t (x + 1) - 48) (h4 : F1 4 (j : Int) = F 52 0) (h5 : F1 5 (j : Int) = 0) (h51 : F1 51 0 = F 51 0 + 1) (h52 : F1 52 0 = F 52 0 + 1) (hi : i = sgc t (x + 3) 13) (hj : j < 8 := by assumption) : nmP F U j t x := by
  obtain ⟨a2, a6, a7, ak, af⟩ := h
  refine ⟨(af 51 0 (by omega) (by omega)).trans h51, (af 52 0 (by omega) (by omega)).trans h52, ⟨a2.trans hi, (af 3 _ (by omega) (by omega)).trans h3, (af 4 _ (by omega) (by omega)).trans h4, (af 5 _ (by omega) (by omega)).trans h5, by rw [a6, hi], by rw [a7, hi], fun k b c => ak k b (by omega)⟩, fun c_ q b c d e => (af c_ q b (by omega)).trans (h0 c_ q c d e)⟩

theorem ok_X9_readItem : yX9_readItem.cls ≠ "java/lang/invoke/MethodHandle" ∧ yX9_readItem.cls ≠ "java/lang/invoke/VarHandle" ∧ (parseMethodDescriptor yX9_readItem.desc).map (fun d => d.parameters.length) = some 1 := ⟨by decide +kernel, by decide +kernel, by decide +kernel⟩
abbrev po_X9_readItem (S : St)  (x : Int) : St → Prop := fun S1 => (txat S x = 119 ∧ S1 = (us (us (us S.1 53 (txat S (x + 1) - 48)) 54 (txat S (x + 3) - 48)) 55 (txat S (x + 5) - 48), S.2)) ∨ (txat S x = 115 ∧ S1.2 = S.2 ∧ nmP S.1 S1.1 (S.2 (S.1 51 0).toNat) (txat S) x)
abbrev rm_X9_readItem : Room := ({ frames := 4, cells := 0, slots := 0, locals := 83 } : Room)
set_option maxRecDepth 100000 in
set_option maxHeartbeats 4000000 in
theorem k_X9_readItem (l : Launch) (G : Ge) (S : St)  (x : Int)  (hx : 0 ≤ x ∧ x ≤ 200) (ht : 0 ≤ S.1 50 0 ∧ S.1 50 0 ≤ 200) (hc : ∀ i : Int, 0 ≤ i → i < S.1 50 0 → 32 ≤ S.1 0 i ∧ S.1 0 i ≤ 126) (hln : 0 ≤ S.1 51 0 ∧ S.1 51 0 ≤ 8) (hpi : ∀ i : Nat, i < 8 → S.2 i < 8) (hit : ¬ bItm (txat S) x = -1) (hs8 : txat S x = 115 → S.1 51 0 < 8) : Kv (KC G) l yX9_readItem cX9_readItem 4 rm_X9_readItem [.ref (G.2.2 0), .int (iI x)] S (po_X9_readItem S x) := by
  refine K_start (own := "NameSeeker") (by decide +kernel) rfl (Nat.le_of_ble_eq_true rfl) ?_
  intro p e s m args below meth c X hr hlk I ls hl
  have hl : lv_has ls 4 [(0, .ref (G.2.2 0)), (1, .int (iI x))] := hl
  refine lv_aload_n X.1 X.2.1 dX9_readItem_0 rfl (lv_at hl 0 rfl) ?_
  refine gC_ns_text X I tb_377 dX9_readItem_1 ?_
  refine lv_iload_n X.1 X.2.1 dX9_readItem_4 rfl (lv_at hl 1 rfl) ?_
  refine cl_i I (runV (As := [.int (iI x)]) (rest := []) X (k_X7_at l G S  x  (by omega) ht hc) (gdC tb_307 (gdC tb_308 (gdC tb_309 (gdC tb_15 (gdC tb_310 gdB))))) ⟨ok_X7_at, ⟨Nat.le_of_ble_eq_true rfl, Nat.le_of_ble_eq_true rfl⟩, rfl, rfl⟩ (PreV.of (C := RX7) (T := TX7) (N := 2) I (atC_text) rfl) rfl hl.1 rfl (Nat.le_of_ble_eq_true rfl) dX9_readItem_5 ⟨Nat.zero_le _, Nat.zero_le _⟩) (fun r1 S2 H locs q3 I => ?_)
  obtain ⟨e1_, e2_⟩ := q3
  rw [e2_] at I
  rw [e1_]
  clear e1_ e2_
  have t4 := txat_r ht hc x
  refine ri_push X (v := 119) (by decide) dX9_readItem_8 ?_
  refine rj_ne (tgt := 51) X (by omega) (by omega) dX9_readItem_10 (by decide) (fun c5 => ?_) (fun c5 => ?_)
  · skip
    have hx5 : txat S x = 115 := bItm_s (by omega) hit
    have hs9 := hs8 hx5
    have hbn := bNam_v (by rw [bItm, if_pos hx5] at hit; exact hit)
    have hjn := hpi (S.1 51 0).toNat (by omega)
    refine lv_aload_n X.1 X.2.1 dX9_readItem_51 rfl (lv_at hl 0 rfl) ?_
    refine gC_ns_lot X I tb_378 dX9_readItem_52 ?_
    refine gC_lot_size X I (v := (S.1 51 0)) rfl tb_102 dX9_readItem_55 ?_
    refine ri_push X (v := 8) (by decide) dX9_readItem_58 ?_
    refine rj_lt (tgt := 64) X (by omega) (by omega) dX9_readItem_60 (by decide) (fun _ => ?_) (fun c6 => absurd c6 (by omega))
    refine lv_aload_n X.1 X.2.1 dX9_readItem_64 rfl (lv_at hl 0 rfl) ?_
    refine gC_ns_lot X I tb_378 dX9_readItem_65 ?_
    refine lv_aload_n X.1 X.2.1 dX9_readItem_68 rfl (lv_at hl 0 rfl) ?_
    refine gC_ns_text X I tb_377 dX9_readItem_69 ?_
    refine lv_iload_n X.1 X.2.1 dX9_readItem_72 rfl (lv_at hl 1 rfl) ?_
    refine ri_const X (v := 1) dX9_readItem_73 ?_
    refine ri_add X (v := (x + 1)) rfl dX9_readItem_74 ?_
    refine cl_i I (runV (As := [.int (iI (x + 1))]) (rest := [.ref (G.2.2 3)]) X (k_X7_figureAt l G S  (x + 1)  (by omega) ht hc) (gdC tb_311 (gdC tb_312 (gdC tb_313 (gdC tb_15 (gdC tb_314 gdB))))) ⟨ok_X7_figureAt, ⟨Nat.le_of_ble_eq_true rfl, Nat.le_of_ble_eq_true rfl⟩, rfl, rfl⟩ (PreV.of (C := RX7) (T := TX7) (N := 2) I (atC_text) rfl) rfl hl.1 rfl (Nat.le_of_ble_eq_true rfl) dX9_readItem_75 ⟨Nat.zero_le _, Nat.zero_le _⟩) (fun r7 S8 H locs q9 I => ?_)
    obtain ⟨e1_, e2_⟩ := q9
    rw [e2_] at I
    rw [e1_]
    clear e1_ e2_
    have t10 := txat_r ht hc (x + 1)
    refine cl_r I (runV (As := [.int (iI (txat S (x + 1) - 48))]) (rest := []) X (k_X3_addName l G S  (txat S (x + 1) - 48) (S.1 51 0) (S.1 52 0) rfl rfl (by omega) hjn) (gdC tb_317 (gdC tb_318 (gdC tb_319 (gdC tb_16 (gdC tb_320 gdB))))) ⟨ok_X3_addName, ⟨Nat.le_of_ble_eq_true rfl, Nat.le_of_ble_eq_true rfl⟩, rfl, rfl⟩ (PreV.of (C := RX3) (T := TX3) (N := 3) I (atC_lot) rfl) rfl hl.1 rfl (Nat.le_of_ble_eq_true rfl) dX9_readItem_78 ⟨Nat.zero_le _, Nat.zero_le _⟩) (fun r11 S12 H locs q13 I => ?_)
    obtain ⟨e1_, e2_⟩ := q13
    rw [e2_] at I
    rw [e1_]
    clear e1_ e2_
    have I : In (KC G) s s.heap H locs ((us (us (ua (ua (ua (ua (ua (ua S.1 2 (((S.2 (S.1 51 0).toNat) : Nat) : Int) 0) 3 (((S.2 (S.1 51 0).toNat) : Nat) : Int) (txat S (x + 1) - 48)) 4 (((S.2 (S.1 51 0).toNat) : Nat) : Int) (S.1 52 0)) 5 (((S.2 (S.1 51 0).toNat) : Nat) : Int) 0) 6 (((S.2 (S.1 51 0).toNat) : Nat) : Int) 0) 7 (((S.2 (S.1 51 0).toNat) : Nat) : Int) 0) 51 ((S.1 51 0) + 1)) 52 ((S.1 52 0) + 1)), S.2) := I
    obtain ⟨F1, hF1⟩ : ∃ F1 : Nat → Int → Int, F1 = (us (us (ua (ua (ua (ua (ua (ua S.1 2 (((S.2 (S.1 51 0).toNat) : Nat) : Int) 0) 3 (((S.2 (S.1 51 0).toNat) : Nat) : Int) (txat S (x + 1) - 48)) 4 (((S.2 (S.1 51 0).toNat) : Nat) : Int) (S.1 52 0)) 5 (((S.2 (S.1 51 0).toNat) : Nat) : Int) 0) 6 (((S.2 (S.1 51 0).toNat) : Nat) : Int) 0) 7 (((S.2 (S.1 51 0).toNat) : Nat) : Int) 0) 51 ((S.1 51 0) + 1)) 52 ((S.1 52 0) + 1)) := ⟨_, rfl⟩
    rw [← hF1] at I
    have hT0 : ∀ (c_ : Nat) (i : Int), ¬ ((2 ≤ c_ ∧ c_ ≤ 7) ∧ i = (((S.2 (S.1 51 0).toNat) : Nat) : Int)) → ¬ c_ = 51 → ¬ c_ = 52 → F1 c_ i = S.1 c_ i := fun c_ i h1 h2 h3 => by rw [hF1, us_nc h3, us_nc h2]; simp only [ua_at]; repeat rw [if_neg (by omega)]
    have hT2 : F1 2 (((S.2 (S.1 51 0).toNat) : Nat) : Int) = 0 := by rw [hF1]; simp [us_at, ua_at]
    have hT3 : F1 3 (((S.2 (S.1 51 0).toNat) : Nat) : Int) = (txat S (x + 1) - 48) := by rw [hF1]; simp [us_at, ua_at]
    have hT4 : F1 4 (((S.2 (S.1 51 0).toNat) : Nat) : Int) = S.1 52 0 := by rw [hF1]; simp [us_at, ua_at]
    have hT5 : F1 5 (((S.2 (S.1 51 0).toNat) : Nat) : Int) = 0 := by rw [hF1]; simp [us_at, ua_at]
    have hT6 : F1 6 (((S.2 (S.1 51 0).toNat) : Nat) : Int) = 0 := by rw [hF1]; simp [us_at, ua_at]
    have hT7 : F1 7 (((S.2 (S.1 51 0).toNat) : Nat) : Int) = 0 := by rw [hF1]; simp [us_at, ua_at]
    have hT51 : F1 51 0 = S.1 51 0 + 1 := by rw [hF1, us_nc (by decide), us_eq]
    have hT52 : F1 52 0 = S.1 52 0 + 1 := by rw [hF1, us_eq]
    refine lv_astore_n (lv' := [(2, .ref (G.2.2 (41 + 2 * (S.2 (S.1 51 0).toNat)))), (0, .ref (G.2.2 0)), (1, .int (iI x))]) X.1 X.2.1 dX9_readItem_81 rfl hl (by decide) rfl (fun ls hl => ?_)
    refine ri_const X (v := 0) dX9_readItem_82 ?_
    refine lv_istore_n (lv' := [(3, .int (iI 0)), (2, .ref (G.2.2 (41 + 2 * (S.2 (S.1 51 0).toNat)))), (0, .ref (G.2.2 0)), (1, .int (iI x))]) X.1 X.2.1 dX9_readItem_83 rfl hl (by decide) rfl (fun ls hl => ?_)
    have lp_84 : ∀ (fu_ : Nat) (i : Int) (U : Nat → Int → Int), (12 - i).toNat < fu_ → ∀ (hi : 0 ≤ i ∧ i ≤ 12) (hsg : i + sgc (txat S) ((x + 3) + i) (13 - i).toNat = sgc (txat S) (x + 3) 13) (hnI : nmI F1 U (S.2 (S.1 51 0).toNat) (fun k => txat S ((x + 3) + k)) i) (htq : (∀ q : Int, U 0 q = S.1 0 q) ∧ U 50 0 = S.1 50 0) (H : Heap) (locs : List Loc), In (KC G) s s.heap H locs (U, S.2) → ∀ ls : Array Slot, lv_has ls 4 [(0, .ref (G.2.2 0)), (1, .int (iI x)), (2, .ref (G.2.2 (41 + 2 * (S.2 (S.1 51 0).toNat)))), (3, .int (iI i))] → W p l e rm_X9_readItem s m args below meth c H locs 0 0 (MQ below (QV (KC G) (po_X9_readItem S x)) args s 0 0 (KC G).2.2.2) (F0 m 84 ls []) := by
      intro fu_
      induction fu_ with
      | zero => intro i U hm; exact absurd hm (by omega)
      | succ fu_ ih_84 =>
        intro i U hm_84 hi hsg hnI htq H locs I ls hl
        refine lv_iload_n X.1 X.2.1 dX9_readItem_84 rfl (lv_at hl 3 rfl) ?_
        refine ri_push X (v := 12) (by decide) dX9_readItem_85 ?_
        refine rj_ge (tgt := 130) X (by omega) (by omega) dX9_readItem_87 (by decide) (fun c14 => ?_) (fun c14 => ?_)
        · skip
          have hin : i = sgc (txat S) (x + 3) 13 := by
            first | (rw [sgc_no _ (by omega)] at hsg; omega) | (have := sgc_r (txat S) (13 - i).toNat (x + 3 + i); omega)
          exact rt_v X hr hlk I (by exact Or.inr ⟨hx5, rfl, nmP_of hnI hT0 hT3 hT4 hT5 hT51 hT52 hin⟩) dX9_readItem_130
        · skip
          refine lv_aload_n X.1 X.2.1 dX9_readItem_90 rfl (lv_at hl 0 rfl) ?_
          refine gC_ns_text X I tb_377 dX9_readItem_91 ?_
          refine lv_iload_n X.1 X.2.1 dX9_readItem_94 rfl (lv_at hl 1 rfl) ?_
          refine ri_const X (v := 3) dX9_readItem_95 ?_
          refine ri_add X (v := (x + 3)) rfl dX9_readItem_96 ?_
          refine lv_iload_n X.1 X.2.1 dX9_readItem_97 rfl (lv_at hl 3 rfl) ?_
          refine ri_add X (v := ((x + 3) + i)) rfl dX9_readItem_98 ?_
          refine cl_i I (runV (As := [.int (iI ((x + 3) + i))]) (rest := []) X (k_X7_at l G (U, S.2)  ((x + 3) + i)  (by omega) (txq_ht htq ht) (txq_hc htq hc)) (gdC tb_307 (gdC tb_308 (gdC tb_309 (gdC tb_15 (gdC tb_310 gdB))))) ⟨ok_X7_at, ⟨Nat.le_of_ble_eq_true rfl, Nat.le_of_ble_eq_true rfl⟩, rfl, rfl⟩ (PreV.of (C := RX7) (T := TX7) (N := 2) I (atC_text) rfl) rfl hl.1 rfl (Nat.le_of_ble_eq_true rfl) dX9_readItem_99 ⟨Nat.zero_le _, Nat.zero_le _⟩) (fun r15 S16 H locs q17 I => ?_)
          obtain ⟨e1_, e2_⟩ := q17
          rw [e2_] at I
          rw [e1_, txq htq]
          clear e1_ e2_
          have t18 := txat_r ht hc ((x + 3) + i)
          refine cl_i I (runS (As := [.int (iI (txat S ((x + 3) + i)))]) (rest := []) X (k_X9_isSign l G (U, S.2)  (txat S ((x + 3) + i))  (by omega)) (gdC tb_327 gdB) tb_325 tb_326 tb_14 ⟨ok_X9_isSign, ⟨Nat.le_of_ble_eq_true rfl, Nat.le_of_ble_eq_true rfl⟩, rfl, rfl⟩ (PreS.of I) rfl hl.1 rfl (Nat.le_of_ble_eq_true rfl) dX9_readItem_102 ⟨Nat.zero_le _, Nat.zero_le _⟩) (fun r19 S20 H locs q21 I => ?_)
          obtain ⟨e1_, e2_⟩ := q21
          rw [e2_] at I
          rw [e1_]
          clear e1_ e2_
          rcases Decidable.em (((97 ≤ ((txat S ((x + 3) + i))) ∧ ((txat S ((x + 3) + i))) ≤ 122) ∨ (65 ≤ ((txat S ((x + 3) + i))) ∧ ((txat S ((x + 3) + i))) ≤ 90) ∨ ((txat S ((x + 3) + i))) = 95)) with b22 | b22
          · rw [bI_t b22]
            refine rz_eq (tgt := 130) X (by omega) dX9_readItem_105 (by decide) (fun c23 => absurd c23 (by decide)) (fun _ => ?_)
            refine lv_aload_n X.1 X.2.1 dX9_readItem_108 rfl (lv_at hl 2 rfl) ?_
            refine lv_aload_n X.1 X.2.1 dX9_readItem_109 rfl (lv_at hl 0 rfl) ?_
            refine gC_ns_text X I tb_377 dX9_readItem_110 ?_
            refine lv_iload_n X.1 X.2.1 dX9_readItem_113 rfl (lv_at hl 1 rfl) ?_
            refine ri_const X (v := 3) dX9_readItem_114 ?_
            refine ri_add X (v := (x + 3)) rfl dX9_readItem_115 ?_
            refine lv_iload_n X.1 X.2.1 dX9_readItem_116 rfl (lv_at hl 3 rfl) ?_
            refine ri_add X (v := ((x + 3) + i)) rfl dX9_readItem_117 ?_
            refine cl_i I (runV (As := [.int (iI ((x + 3) + i))]) (rest := [.ref (G.2.2 (41 + 2 * (S.2 (S.1 51 0).toNat)))]) X (k_X7_at l G (U, S.2)  ((x + 3) + i)  (by omega) (txq_ht htq ht) (txq_hc htq hc)) (gdC tb_307 (gdC tb_308 (gdC tb_309 (gdC tb_15 (gdC tb_310 gdB))))) ⟨ok_X7_at, ⟨Nat.le_of_ble_eq_true rfl, Nat.le_of_ble_eq_true rfl⟩, rfl, rfl⟩ (PreV.of (C := RX7) (T := TX7) (N := 2) I (atC_text) rfl) rfl hl.1 rfl (Nat.le_of_ble_eq_true rfl) dX9_readItem_118 ⟨Nat.zero_le _, Nat.zero_le _⟩) (fun r24 S25 H locs q26 I => ?_)
            obtain ⟨e1_, e2_⟩ := q26
            rw [e2_] at I
            rw [e1_, txq htq]
            clear e1_ e2_
            have t27 := txat_r ht hc ((x + 3) + i)
            refine cl_v I (runV (As := [.int (iI (txat S ((x + 3) + i)))]) (rest := []) X (k_X4_addSign l G (U, S.2) ((S.2 (S.1 51 0).toNat)) (txat S ((x + 3) + i))  (hpi _ (by omega)) (by omega) (nmI_z hnI (by omega)) (nmI_sr hnI (fun k => (txat_r ht hc _))) (nmI_6 hnI (by omega)) (nmI_7 hnI (by omega) (fun k => (txat_r ht hc _)))) (gdC tb_337 (gdC tb_338 (gdC tb_339 (gdC tb_17 (gdC tb_340 gdB))))) ⟨ok_X4_addSign, ⟨Nat.le_of_ble_eq_true rfl, Nat.le_of_ble_eq_true rfl⟩, rfl, rfl⟩ (PreV.of (C := RX4) (T := TX4) (N := 7) I (atC_name (j := (S.2 (S.1 51 0).toNat)) (hpi _ (by omega))) rfl) rfl hl.1 rfl (Nat.le_of_ble_eq_true rfl) dX9_readItem_121 ⟨Nat.zero_le _, Nat.zero_le _⟩) (fun S29 H locs q30 I => ?_)
            rw [q30] at I
            have I : In (KC G) s s.heap H locs ((adS U (S.2 (S.1 51 0).toNat) (txat S ((x + 3) + i))), S.2) := I
            refine ri_iinc X (k := 3) (v := (i + 1)) (lv' := [(3, .int (iI (i + 1))), (0, .ref (G.2.2 0)), (1, .int (iI x)), (2, .ref (G.2.2 (41 + 2 * (S.2 (S.1 51 0).toNat))))]) rfl dX9_readItem_124 hl rfl (by decide) rfl (fun ls hl => ?_)
            refine lv_goto (tgt := 84) X.1 X.2.1 dX9_readItem_127 (by decide) ?_
            exact ih_84 (i + 1) (adS U (S.2 (S.1 51 0).toNat) (txat S ((x + 3) + i))) (by omega) (by omega) (by have e := sgc_yes (f := txat S) (p := x + 3 + i) (n := (13 - i).toNat) (by omega) (by omega); rw [e, show (13 - i).toNat - 1 = (13 - (i + 1)).toNat by omega, show x + 3 + i + 1 = x + 3 + (i + 1) by omega] at hsg; omega) (nmI_s (by omega) hjn (by omega) hnI rfl) (⟨fun q => (adS_fr (by omega) (by omega)).trans (htq.1 q), (adS_fr (by omega) (by omega)).trans htq.2⟩) _ _ I ls (lv_sub hl [1, 2, 3, 0] rfl)
          · rw [bI_f b22]
            refine rz_eq (tgt := 130) X (by omega) dX9_readItem_105 (by decide) (fun _ => ?_) (fun c31 => absurd c31 (fun q => q (by decide)))
            have hin : i = sgc (txat S) (x + 3) 13 := by
              first | (rw [sgc_no _ (by omega)] at hsg; omega) | (have := sgc_r (txat S) (13 - i).toNat (x + 3 + i); omega)
            exact rt_v X hr hlk I (by exact Or.inr ⟨hx5, rfl, nmP_of hnI hT0 hT3 hT4 hT5 hT51 hT52 hin⟩) dX9_readItem_130
    exact lp_84 (13) 0 F1 (by omega) (by omega) (by simp) (nmI_0 hT2 hT6 hT7) (⟨fun q => hT0 0 q (by omega) (by decide) (by decide), hT0 50 0 (by omega) (by decide) (by decide)⟩) _ _ I ls (lv_sub hl [2, 3, 1, 0] rfl)
  · skip
    have hbw := bItm_w (by omega) hit
    refine lv_aload_n X.1 X.2.1 dX9_readItem_13 rfl (lv_at hl 0 rfl) ?_
    refine gC_ns_scales X I tb_379 dX9_readItem_14 ?_
    refine lv_aload_n X.1 X.2.1 dX9_readItem_17 rfl (lv_at hl 0 rfl) ?_
    refine gC_ns_text X I tb_377 dX9_readItem_18 ?_
    refine lv_iload_n X.1 X.2.1 dX9_readItem_21 rfl (lv_at hl 1 rfl) ?_
    refine ri_const X (v := 1) dX9_readItem_22 ?_
    refine ri_add X (v := (x + 1)) rfl dX9_readItem_23 ?_
    refine cl_i I (runV (As := [.int (iI (x + 1))]) (rest := [.ref (G.2.2 5)]) X (k_X7_figureAt l G S  (x + 1)  (by omega) ht hc) (gdC tb_311 (gdC tb_312 (gdC tb_313 (gdC tb_15 (gdC tb_314 gdB))))) ⟨ok_X7_figureAt, ⟨Nat.le_of_ble_eq_true rfl, Nat.le_of_ble_eq_true rfl⟩, rfl, rfl⟩ (PreV.of (C := RX7) (T := TX7) (N := 2) I (atC_text) rfl) rfl hl.1 rfl (Nat.le_of_ble_eq_true rfl) dX9_readItem_24 ⟨Nat.zero_le _, Nat.zero_le _⟩) (fun r32 S33 H locs q34 I => ?_)
    obtain ⟨e1_, e2_⟩ := q34
    rw [e2_] at I
    rw [e1_]
    clear e1_ e2_
    have t35 := txat_r ht hc (x + 1)
    refine lv_aload_n X.1 X.2.1 dX9_readItem_27 rfl (lv_at hl 0 rfl) ?_
    refine gC_ns_text X I tb_377 dX9_readItem_28 ?_
    refine lv_iload_n X.1 X.2.1 dX9_readItem_31 rfl (lv_at hl 1 rfl) ?_
    refine ri_const X (v := 3) dX9_readItem_32 ?_
    refine ri_add X (v := (x + 3)) rfl dX9_readItem_33 ?_
    refine cl_i I (runV (As := [.int (iI (x + 3))]) (rest := [.int (iI (txat S (x + 1) - 48)), .ref (G.2.2 5)]) X (k_X7_figureAt l G S  (x + 3)  (by omega) ht hc) (gdC tb_311 (gdC tb_312 (gdC tb_313 (gdC tb_15 (gdC tb_314 gdB))))) ⟨ok_X7_figureAt, ⟨Nat.le_of_ble_eq_true rfl, Nat.le_of_ble_eq_true rfl⟩, rfl, rfl⟩ (PreV.of (C := RX7) (T := TX7) (N := 2) I (atC_text) rfl) rfl hl.1 rfl (Nat.le_of_ble_eq_true rfl) dX9_readItem_34 ⟨Nat.zero_le _, Nat.zero_le _⟩) (fun r36 S37 H locs q38 I => ?_)
    obtain ⟨e1_, e2_⟩ := q38
    rw [e2_] at I
    rw [e1_]
    clear e1_ e2_
    have t39 := txat_r ht hc (x + 3)
    refine lv_aload_n X.1 X.2.1 dX9_readItem_37 rfl (lv_at hl 0 rfl) ?_
    refine gC_ns_text X I tb_377 dX9_readItem_38 ?_
    refine lv_iload_n X.1 X.2.1 dX9_readItem_41 rfl (lv_at hl 1 rfl) ?_
    refine ri_const X (v := 5) dX9_readItem_42 ?_
    refine ri_add X (v := (x + 5)) rfl dX9_readItem_43 ?_
    refine cl_i I (runV (As := [.int (iI (x + 5))]) (rest := [.int (iI (txat S (x + 3) - 48)), .int (iI (txat S (x + 1) - 48)), .ref (G.2.2 5)]) X (k_X7_figureAt l G S  (x + 5)  (by omega) ht hc) (gdC tb_311 (gdC tb_312 (gdC tb_313 (gdC tb_15 (gdC tb_314 gdB))))) ⟨ok_X7_figureAt, ⟨Nat.le_of_ble_eq_true rfl, Nat.le_of_ble_eq_true rfl⟩, rfl, rfl⟩ (PreV.of (C := RX7) (T := TX7) (N := 2) I (atC_text) rfl) rfl hl.1 rfl (Nat.le_of_ble_eq_true rfl) dX9_readItem_44 ⟨Nat.zero_le _, Nat.zero_le _⟩) (fun r40 S41 H locs q42 I => ?_)
    obtain ⟨e1_, e2_⟩ := q42
    rw [e2_] at I
    rw [e1_]
    clear e1_ e2_
    have t43 := txat_r ht hc (x + 5)
    refine cl_v I (runV (As := [.int (iI (txat S (x + 1) - 48)), .int (iI (txat S (x + 3) - 48)), .int (iI (txat S (x + 5) - 48))]) (rest := []) X (k_X6_set l G S  (txat S (x + 1) - 48) (txat S (x + 3) - 48) (txat S (x + 5) - 48)  ) (gdC tb_316 (gdC tb_300 (gdC tb_301 (gdC tb_18 (gdC tb_302 gdB))))) ⟨ok_X6_set, ⟨Nat.le_of_ble_eq_true rfl, Nat.le_of_ble_eq_true rfl⟩, rfl, rfl⟩ (PreV.of (C := RX6) (T := TX6) (N := 3) I (atC_scales) rfl) rfl hl.1 rfl (Nat.le_of_ble_eq_true rfl) dX9_readItem_47 ⟨Nat.zero_le _, Nat.zero_le _⟩) (fun S45 H locs q46 I => ?_)
    rw [q46] at I
    have I : In (KC G) s s.heap H locs ((us (us (us S.1 53 (txat S (x + 1) - 48)) 54 (txat S (x + 3) - 48)) 55 (txat S (x + 5) - 48)), S.2) := I
    exact rt_v X hr hlk I (by exact Or.inl ⟨by omega, rfl⟩) dX9_readItem_50
