theorem flt_b {f : Int → Int} {len : Int} (hl : 0 ≤ len ∧ len ≤ 200) (hb : ∀ x : Int, bItm f x = -1 ∨ (x + 4 < bItm f x ∧ bItm f x ≤ len)) : ∀ (k : Nat) (a n : Int), 0 ≤ a → flt f len k a n = -4 ∨ (0 ≤ flt f len k a n ∧ flt f len k a n ≤ 200)
  | 0, _, _, _ => Or.inl rfl
  | k + 1, a, n, h => by
    rw [flt]
    by_cases h1 : a < len
    · rw [if_pos h1]
      by_cases h2 : bItm f a = -1 ∨ 8 < (if f a = 115 then n + 1 else n)
      · rw [if_pos h2]; exact Or.inr (by omega)
      · rw [if_neg h2]
        refine flt_b hl hb k _ _ ?_
        rcases hb a with z | z
        · exact absurd (Or.inl z) h2
        · omega
    · rw [if_neg h1]; exact Or.inl rfl
theorem flt_v {f : Int → Int} {len : Int} {i a n : Int} (hi : 0 ≤ i ∧ i < 200) (ha : a < len) (h : flt f len (200 - i).toNat a n = -4) (ha0 : 0 ≤ a := by omega) : ¬ bItm f a = -1 ∧ n + (if f a = 115 then 1 else 0) ≤ 8 ∧ flt f len (200 - (i + 1)).toNat (bItm f a) (n + (if f a = 115 then 1 else 0)) = -4 := by
  rw [show (200 - i).toNat = (200 - (i + 1)).toNat + 1 by omega, flt, if_pos ha] at h
  by_cases hb : bItm f a = -1 ∨ 8 < (if f a = 115 then n + 1 else n)
  · rw [if_pos hb] at h; omega
  · rw [if_neg hb] at h
    have e : (if f a = 115 then n + 1 else n) = n + (if f a = 115 then 1 else 0) := by split <;> omega
    rw [e] at h hb
    exact ⟨fun z => hb (Or.inl z), by omega, h⟩
/-- where the items begin; how many names are among the first ones; the last item that tells worths -/
def itm (t : Int → Int) : Nat → Int
  | 0 => 0
  | i + 1 => bItm t (itm t i)
def cnt (t : Int → Int) : Nat → Int
  | 0 => 0
  | i + 1 => cnt t i + (if t (itm t i) = 115 then 1 else 0)
def wsp (t : Int → Int) : Nat → Int
  | 0 => -1
  | i + 1 => if t (itm t i) = 119 then itm t i else wsp t i
def scv (t : Int → Int) (i : Nat) (d o : Int) : Int := if wsp t i = -1 then d else t (wsp t i + o) - 48
theorem itm_s {t : Int → Int} {i : Int} (h : 0 ≤ i) : itm t (i + 1).toNat = bItm t (itm t i.toNat) := by rw [show (i + 1).toNat = i.toNat + 1 by omega, itm]
theorem cnt_s {t : Int → Int} {i : Int} (h : 0 ≤ i) : cnt t (i + 1).toNat = cnt t i.toNat + (if t (itm t i.toNat) = 115 then 1 else 0) := by rw [show (i + 1).toNat = i.toNat + 1 by omega, cnt]
theorem cnt_0 (t : Int → Int) : ∀ i : Nat, 0 ≤ cnt t i
  | 0 => by rw [cnt]; omega
  | i + 1 => by have := cnt_0 t i; rw [cnt]; split <;> omega
theorem cnt_m (t : Int → Int) : ∀ {i k : Nat}, i ≤ k → cnt t i ≤ cnt t k
  | i, 0, h => by rw [show i = 0 by omega]; omega
  | i, k + 1, h => by
    rcases Nat.lt_or_ge k i with z | z
    · rw [show i = k + 1 by omega]; omega
    · have := cnt_m t z
      rw [cnt]; split <;> omega
theorem cnt_lt {t : Int → Int} {i k : Nat} (h : i < k) (hs : t (itm t i) = 115) : cnt t i < cnt t k := by
  have := cnt_m t (show i + 1 ≤ k from h)
  rw [cnt, if_pos hs] at this
  omega
theorem laid_fr {U V : Nat → Int → Int} {j : Nat} {t : Int → Int} {x id : Int} (h : laid U j t x id) (hf : ∀ (c_ : Nat), (2 ≤ c_ ∧ c_ ≤ 7) → V c_ (j : Int) = U c_ (j : Int)) (h20 : ∀ q : Int, V (20 + j) q = U (20 + j) q) : laid V j t x id := by
  obtain ⟨a, b, c, d, e, f, g⟩ := h
  exact ⟨(hf 2 (by omega)).trans a, (hf 3 (by omega)).trans b, (hf 4 (by omega)).trans c, (hf 5 (by omega)).trans d, (hf 6 (by omega)).trans e, (hf 7 (by omega)).trans f, fun k h1 h2 => (h20 k).trans (g k h1 h2)⟩
/-- so many items are read -/
def lyI (F U : Nat → Int → Int) (P : Nat → Nat) (t : Int → Int) (i : Nat) : Prop := U 51 0 = cnt t i ∧ U 52 0 = F 52 0 + cnt t i ∧ U 53 0 = scv t i 3 1 ∧ U 54 0 = scv t i 2 3 ∧ U 55 0 = scv t i 1 5 ∧ (∀ k : Nat, k < i → t (itm t k) = 115 → laid U (P (cnt t k).toNat) t (itm t k) (F 52 0 + cnt t k)) ∧ ∀ (c_ : Nat) (q : Int), ¬ (2 ≤ c_ ∧ c_ ≤ 7) → ¬ (20 ≤ c_ ∧ c_ < 28) → ¬ (51 ≤ c_ ∧ c_ ≤ 55) → U c_ q = F c_ q
theorem lyI_0 {F : Nat → Int → Int} {P : Nat → Nat} {t : Int → Int} : lyI F (us (us (us (us F 51 0) 53 3) 54 2) 55 1) P t (0 : Int).toNat := by
  refine ⟨?_, ?_, ?_, ?_, ?_, fun k h => absurd h (by simp), fun c_ q h1 h2 h3 => ?_⟩
  · rw [us_nc (by decide), us_nc (by decide), us_nc (by decide), us_eq]; rfl
  · rw [us_nc (by decide), us_nc (by decide), us_nc (by decide), us_nc (by decide)]; show _ = _ + (0 : Int); omega
  · rw [us_nc (by decide), us_nc (by decide), us_eq]; rfl
  · rw [us_nc (by decide), us_eq]; rfl
  · rw [us_eq]; rfl
  · rw [us_nc (by omega), us_nc (by omega), us_nc (by omega), us_nc (by omega)]
theorem lyI_s {F U V : Nat → Int → Int} {P : Nat → Nat} {t : Int → Int} {i a : Int} (hinj : ∀ i j : Nat, i < 8 → j < 8 → P i = P j → i = j) (hi : 0 ≤ i) (ha : a = itm t i.toNat) (h : lyI F U P t i.toNat) (hc : 0 ≤ cnt t i.toNat ∧ cnt t i.toNat ≤ 8) (hc2 : cnt t i.toNat + (if t a = 115 then 1 else 0) ≤ 8) (hq : (t a = 119 ∧ V = us (us (us U 53 (t (a + 1) - 48)) 54 (t (a + 3) - 48)) 55 (t (a + 5) - 48)) ∨ (t a = 115 ∧ nmP U V (P (U 51 0).toNat) t a)) (hp : ∀ i : Nat, i < 8 → P i < 8 := by assumption) (ha0 : ¬ a = -1 := by omega) : lyI F V P t (i + 1).toNat := by
  obtain ⟨h1, h2, h3, h4, h5, h6, h7⟩ := h
  have e1 : cnt t (i + 1).toNat = cnt t i.toNat + (if t a = 115 then 1 else 0) := by rw [cnt_s hi, ← ha]
  have e2 : ∀ d o : Int, scv t (i + 1).toNat d o = if t a = 119 then t (a + o) - 48 else scv t i.toNat d o := fun d o => by
    unfold scv
    rw [show (i + 1).toNat = i.toNat + 1 by omega, wsp, ← ha]
    by_cases q : t a = 119
    · rw [if_pos q, if_neg ha0, if_pos q]
    · rw [if_neg q, if_neg q]
  rcases hq with ⟨hw, rfl⟩ | ⟨hs, n1, n2, n3, n4⟩
  · refine ⟨?_, ?_, ?_, ?_, ?_, fun k hk q => ?_, fun c_ q a b c => ?_⟩
    · rw [us_nc (by decide), us_nc (by decide), us_nc (by decide), h1, e1, if_neg (by omega)]; omega
    · rw [us_nc (by decide), us_nc (by decide), us_nc (by decide), h2, e1, if_neg (by omega)]; omega
    · rw [us_nc (by decide), us_nc (by decide), us_eq, e2, if_pos hw]
    · rw [us_nc (by decide), us_eq, e2, if_pos hw]
    · rw [us_eq, e2, if_pos hw]
    · by_cases hki : k = i.toNat
      · rw [hki, ← ha] at q; omega
      · have hl := h6 k (by omega) q
        have hb : P (cnt t k).toNat < 8 := hp _ (by have := cnt_m t (show k ≤ i.toNat by omega); have := cnt_0 t k; have := cnt_lt (show k < i.toNat by omega) q; omega)
        exact laid_fr hl (fun c_ hc_ => by rw [us_nc (by omega), us_nc (by omega), us_nc (by omega)]) (fun q => by rw [us_nc (by omega), us_nc (by omega), us_nc (by omega)])
    · rw [us_nc (by omega), us_nc (by omega), us_nc (by omega)]; exact h7 c_ q a b c
  · rw [if_pos hs] at hc2 e1
    have hjl := hp (U 51 0).toNat (by rw [h1]; omega)
    refine ⟨by rw [n1, h1, e1], by rw [n2, h2, e1]; omega, ?_, ?_, ?_, fun k hk q => ?_, fun c_ q a b c => ?_⟩
    · rw [n4 53 0 (by omega) (by omega) (by decide) (by decide), h3, e2, if_neg (by omega)]
    · rw [n4 54 0 (by omega) (by omega) (by decide) (by decide), h4, e2, if_neg (by omega)]
    · rw [n4 55 0 (by omega) (by omega) (by decide) (by decide), h5, e2, if_neg (by omega)]
    · by_cases hki : k = i.toNat
      · rw [hki, ← ha, ← h1]
        rw [h2, ← h1] at n3
        exact n3
      · have hl := h6 k (by omega) q
        have g1 := cnt_lt (show k < i.toNat by omega) q
        have g0 := cnt_0 t k
        have hb : P (cnt t k).toNat < 8 := hp _ (by omega)
        have hne : ¬ P (cnt t k).toNat = P (U 51 0).toNat := fun z => by
          have := hinj _ _ (by omega) (by rw [h1]; omega) z
          rw [h1] at this; omega
        exact laid_fr hl (fun c_ hc_ => n4 c_ _ (by omega) (by omega) (by omega) (by omega)) (fun q => n4 _ q (by omega) (by omega) (by omega) (by omega))
    · exact (n4 c_ q (by omega) (by omega) (by omega) (by omega)).trans (h7 c_ q a b c)
theorem po_ri {U V : Nat → Int → Int} {P Q : Nat → Nat} {S : St} {x : Int} (h : txat (U, P) = txat S) : po_X9_readItem (U, P) x (V, Q) ↔ (Q = P ∧ ((txat S x = 119 ∧ V = us (us (us U 53 (txat S (x + 1) - 48)) 54 (txat S (x + 3) - 48)) 55 (txat S (x + 5) - 48)) ∨ (txat S x = 115 ∧ nmP U V (P (U 51 0).toNat) (txat S) x))) := by
  unfold po_X9_readItem
  rw [h]
  constructor
  · rintro (⟨a, b⟩ | ⟨a, b, c⟩)
    · exact ⟨congrArg Prod.snd b, Or.inl ⟨a, congrArg Prod.fst b⟩⟩
    · exact ⟨b, Or.inr ⟨a, c⟩⟩
  · rintro ⟨a, ⟨b, c⟩ | ⟨b, c⟩⟩
    · exact Or.inl ⟨b, by rw [a, c]⟩
    · exact Or.inr ⟨b, a, c⟩
/-- all was laid -/
def layP (F V : Nat → Int → Int) (P : Nat → Nat) (t : Int → Int) (len : Int) : Prop := ∃ (I : Nat) (U : Nat → Int → Int), len ≤ itm t I ∧ (∀ k : Nat, k < I → itm t k < len ∧ ¬ bItm t (itm t k) = -1) ∧ cnt t I ≤ 8 ∧ lyI F U P t I ∧ V = us (us (ua U 8 0 0) 56 0) 58 (F 58 0 + 1)

theorem ok_X9_layText : yX9_layText.cls ≠ "java/lang/invoke/MethodHandle" ∧ yX9_layText.cls ≠ "java/lang/invoke/VarHandle" ∧ (parseMethodDescriptor yX9_layText.desc).map (fun d => d.parameters.length) = some 0 := ⟨by decide +kernel, by decide +kernel, by decide +kernel⟩
abbrev po_X9_layText (S : St)   : St → Prop := fun S1 => S1.2 = S.2 ∧ layP S.1 S1.1 S.2 (txat S) (S.1 50 0)
abbrev rm_X9_layText : Room := ({ frames := 5, cells := 0, slots := 0, locals := 108 } : Room)
set_option maxRecDepth 100000 in
set_option maxHeartbeats 4000000 in
theorem k_X9_layText (l : Launch) (G : Ge) (S : St)    (ht : 0 ≤ S.1 50 0 ∧ S.1 50 0 ≤ 200) (hc : ∀ i : Int, 0 ≤ i → i < S.1 50 0 → 32 ≤ S.1 0 i ∧ S.1 0 i ≤ 126) (hpi : ∀ i : Nat, i < 8 → S.2 i < 8) (hinj : ∀ i j : Nat, i < 8 → j < 8 → S.2 i = S.2 j → i = j) (hflt : flt (txat S) (S.1 50 0) 200 0 0 = -4) : Kv (KC G) l yX9_layText cX9_layText 3 rm_X9_layText [.ref (G.2.2 0)] S (po_X9_layText S) := by
  refine K_start (own := "NameSeeker") (by decide +kernel) rfl (Nat.le_of_ble_eq_true rfl) ?_
  intro p e s m args below meth c X hr hlk I ls hl
  have hl : lv_has ls 3 [(0, .ref (G.2.2 0))] := hl
  refine lv_aload_n X.1 X.2.1 dX9_layText_0 rfl (lv_at hl 0 rfl) ?_
  refine gC_ns_lot X I tb_378 dX9_layText_1 ?_
  refine cl_v I (runV (As := []) (rest := []) X (k_X3_clear l G S    ) (gdC tb_291 (gdC tb_292 (gdC tb_293 (gdC tb_16 (gdC tb_294 gdB))))) ⟨ok_X3_clear, ⟨Nat.le_of_ble_eq_true rfl, Nat.le_of_ble_eq_true rfl⟩, rfl, rfl⟩ (PreV.of (C := RX3) (T := TX3) (N := 3) I (atC_lot) rfl) rfl hl.1 rfl (Nat.le_of_ble_eq_true rfl) dX9_layText_4 ⟨Nat.zero_le _, Nat.zero_le _⟩) (fun S2 H locs q3 I => ?_)
  rw [q3] at I
  have I : In (KC G) s s.heap H locs ((us S.1 51 0), S.2) := I
  refine lv_aload_n X.1 X.2.1 dX9_layText_7 rfl (lv_at hl 0 rfl) ?_
  refine gC_ns_scales X I tb_379 dX9_layText_8 ?_
  refine cl_v I (runV (As := []) (rest := []) X (k_X6_setDefaults l G ((us S.1 51 0), S.2)    ) (gdC tb_295 (gdC tb_296 (gdC tb_297 (gdC tb_18 (gdC tb_298 gdB))))) ⟨ok_X6_setDefaults, ⟨Nat.le_of_ble_eq_true rfl, Nat.le_of_ble_eq_true rfl⟩, rfl, rfl⟩ (PreV.of (C := RX6) (T := TX6) (N := 3) I (atC_scales) rfl) rfl hl.1 rfl (Nat.le_of_ble_eq_true rfl) dX9_layText_11 ⟨Nat.zero_le _, Nat.zero_le _⟩) (fun S5 H locs q6 I => ?_)
  rw [q6] at I
  have I : In (KC G) s s.heap H locs ((us (us (us (us S.1 51 0) 53 3) 54 2) 55 1), S.2) := I
  refine ri_const X (v := 0) dX9_layText_14 ?_
  refine lv_istore_n (lv' := [(1, .int (iI 0)), (0, .ref (G.2.2 0))]) X.1 X.2.1 dX9_layText_15 rfl hl (by decide) rfl (fun ls hl => ?_)
  refine ri_const X (v := 0) dX9_layText_16 ?_
  refine lv_istore_n (lv' := [(2, .int (iI 0)), (1, .int (iI 0)), (0, .ref (G.2.2 0))]) X.1 X.2.1 dX9_layText_17 rfl hl (by decide) rfl (fun ls hl => ?_)
  have lp_18 : ∀ (fu_ : Nat) (a : Int) (i : Int) (U : Nat → Int → Int), (200 - i).toNat < fu_ → ∀ (hi : 0 ≤ i ∧ i ≤ 200 ∧ i ≤ a ∧ a ≤ S.1 50 0) (ha : a = itm (txat S) i.toNat) (hfl : flt (txat S) (S.1 50 0) (200 - i).toNat a (cnt (txat S) i.toNat) = -4) (hly : lyI S.1 U S.2 (txat S) i.toNat) (hcn : 0 ≤ cnt (txat S) i.toNat ∧ cnt (txat S) i.toNat ≤ 8) (hall : ∀ k : Nat, k < i.toNat → itm (txat S) k < S.1 50 0 ∧ ¬ bItm (txat S) (itm (txat S) k) = -1) (H : Heap) (locs : List Loc), In (KC G) s s.heap H locs (U, S.2) → ∀ ls : Array Slot, lv_has ls 3 [(0, .ref (G.2.2 0)), (1, .int (iI a)), (2, .int (iI i))] → W p l e rm_X9_layText s m args below meth c H locs 0 0 (MQ below (QV (KC G) (po_X9_layText S)) args s 0 0 (KC G).2.2.2) (F0 m 18 ls []) := by
    intro fu_
    induction fu_ with
    | zero => intro a i U hm; exact absurd hm (by omega)
    | succ fu_ ih_18 =>
      intro a i U hm_18 hi ha hfl hly hcn hall H locs I ls hl
      refine lv_iload_n X.1 X.2.1 dX9_layText_18 rfl (lv_at hl 2 rfl) ?_
      refine ri_spush X (v := 200) (by decide) dX9_layText_19 ?_
      refine rj_ge (tgt := 60) X (by omega) (by omega) dX9_layText_22 (by decide) (fun c7 => ?_) (fun c7 => ?_)
      · skip
        have hend : S.1 50 0 ≤ itm (txat S) i.toNat := by rw [← ha]; omega
        refine lv_aload_n X.1 X.2.1 dX9_layText_60 rfl (lv_at hl 0 rfl) ?_
        refine gC_ns_typed X I tb_380 dX9_layText_61 ?_
        refine cl_v I (runV (As := []) (rest := []) X (k_X8_clear l G (U, S.2) (0)   (by omega)) (gdC tb_369 (gdC tb_370 (gdC tb_371 (gdC tb_19 (gdC tb_372 gdB))))) ⟨ok_X8_clear, ⟨Nat.le_of_ble_eq_true rfl, Nat.le_of_ble_eq_true rfl⟩, rfl, rfl⟩ (PreV.of (C := RX8) (T := TX8) (N := 2) I (atC_word (w := 0) (by decide)) rfl) rfl hl.1 rfl (Nat.le_of_ble_eq_true rfl) dX9_layText_64 ⟨Nat.zero_le _, Nat.zero_le _⟩) (fun S9 H locs q10 I => ?_)
        rw [q10] at I
        have I : In (KC G) s s.heap H locs ((ua U 8 0 0), S.2) := I
        refine lv_aload_n X.1 X.2.1 dX9_layText_67 rfl (lv_at hl 0 rfl) ?_
        refine ri_const X (v := 0) dX9_layText_68 ?_
        refine pC_ns_keptSize X I tb_387 dX9_layText_69 (fun H locs I => ?_)
        have I : In (KC G) s s.heap H locs ((us (ua U 8 0 0) 56 0), S.2) := I
        refine lv_aload_n X.1 X.2.1 dX9_layText_72 rfl (lv_at hl 0 rfl) ?_
        refine lv_dup X.1 X.2.1 dX9_layText_73 rfl ?_
        refine gC_ns_age X I (v := (S.1 58 0)) (by show (us (ua U 8 0 0) 56 0) 58 0 = _; rw [us_nc (by decide), ua_nc (by decide)]; exact (hly.2.2.2.2.2.2 58 0 (by omega) (by omega) (by omega))) tb_389 dX9_layText_74 ?_
        refine ri_const X (v := 1) dX9_layText_77 ?_
        refine ri_add X (v := ((S.1 58 0) + 1)) rfl dX9_layText_78 ?_
        refine pC_ns_age X I tb_389 dX9_layText_79 (fun H locs I => ?_)
        have I : In (KC G) s s.heap H locs ((us (us (ua U 8 0 0) 56 0) 58 ((S.1 58 0) + 1)), S.2) := I
        exact rt_v X hr hlk I (by exact ⟨rfl, i.toNat, U, hend, hall, hcn.2, hly, by rw [← hly.2.2.2.2.2.2 58 0 (by omega) (by omega) (by omega)]⟩) dX9_layText_82
      · skip
        refine lv_iload_n X.1 X.2.1 dX9_layText_25 rfl (lv_at hl 1 rfl) ?_
        refine rz_lt (tgt := 60) X (by omega) dX9_layText_26 (by decide) (fun c11 => absurd c11 (by omega)) (fun _ => ?_)
        refine lv_iload_n X.1 X.2.1 dX9_layText_29 rfl (lv_at hl 1 rfl) ?_
        refine lv_aload_n X.1 X.2.1 dX9_layText_30 rfl (lv_at hl 0 rfl) ?_
        refine gC_ns_text X I tb_377 dX9_layText_31 ?_
        refine gC_text_size X I (v := (S.1 50 0)) (hly.2.2.2.2.2.2 50 0 (by omega) (by omega) (by omega)) tb_45 dX9_layText_34 ?_
        refine rj_ge (tgt := 60) X (by omega) (by omega) dX9_layText_37 (by decide) (fun c12 => ?_) (fun c12 => ?_)
        · skip
          have hend : S.1 50 0 ≤ itm (txat S) i.toNat := by rw [← ha]; omega
          refine lv_aload_n X.1 X.2.1 dX9_layText_60 rfl (lv_at hl 0 rfl) ?_
          refine gC_ns_typed X I tb_380 dX9_layText_61 ?_
          refine cl_v I (runV (As := []) (rest := []) X (k_X8_clear l G (U, S.2) (0)   (by omega)) (gdC tb_369 (gdC tb_370 (gdC tb_371 (gdC tb_19 (gdC tb_372 gdB))))) ⟨ok_X8_clear, ⟨Nat.le_of_ble_eq_true rfl, Nat.le_of_ble_eq_true rfl⟩, rfl, rfl⟩ (PreV.of (C := RX8) (T := TX8) (N := 2) I (atC_word (w := 0) (by decide)) rfl) rfl hl.1 rfl (Nat.le_of_ble_eq_true rfl) dX9_layText_64 ⟨Nat.zero_le _, Nat.zero_le _⟩) (fun S14 H locs q15 I => ?_)
          rw [q15] at I
          have I : In (KC G) s s.heap H locs ((ua U 8 0 0), S.2) := I
          refine lv_aload_n X.1 X.2.1 dX9_layText_67 rfl (lv_at hl 0 rfl) ?_
          refine ri_const X (v := 0) dX9_layText_68 ?_
          refine pC_ns_keptSize X I tb_387 dX9_layText_69 (fun H locs I => ?_)
          have I : In (KC G) s s.heap H locs ((us (ua U 8 0 0) 56 0), S.2) := I
          refine lv_aload_n X.1 X.2.1 dX9_layText_72 rfl (lv_at hl 0 rfl) ?_
          refine lv_dup X.1 X.2.1 dX9_layText_73 rfl ?_
          refine gC_ns_age X I (v := (S.1 58 0)) (by show (us (ua U 8 0 0) 56 0) 58 0 = _; rw [us_nc (by decide), ua_nc (by decide)]; exact (hly.2.2.2.2.2.2 58 0 (by omega) (by omega) (by omega))) tb_389 dX9_layText_74 ?_
          refine ri_const X (v := 1) dX9_layText_77 ?_
          refine ri_add X (v := ((S.1 58 0) + 1)) rfl dX9_layText_78 ?_
          refine pC_ns_age X I tb_389 dX9_layText_79 (fun H locs I => ?_)
          have I : In (KC G) s s.heap H locs ((us (us (ua U 8 0 0) 56 0) 58 ((S.1 58 0) + 1)), S.2) := I
          exact rt_v X hr hlk I (by exact ⟨rfl, i.toNat, U, hend, hall, hcn.2, hly, by rw [← hly.2.2.2.2.2.2 58 0 (by omega) (by omega) (by omega)]⟩) dX9_layText_82
        · skip
          have hgo := flt_v (f := txat S) (by omega) (by omega) hfl
          have htq : (∀ q : Int, U 0 q = S.1 0 q) ∧ U 50 0 = S.1 50 0 := ⟨fun q => hly.2.2.2.2.2.2 0 q (by omega) (by omega) (by omega), hly.2.2.2.2.2.2 50 0 (by omega) (by omega) (by omega)⟩
          have hbr := bItm_r ht a
          refine lv_aload_n X.1 X.2.1 dX9_layText_40 rfl (lv_at hl 0 rfl) ?_
          refine lv_iload_n X.1 X.2.1 dX9_layText_41 rfl (lv_at hl 1 rfl) ?_
          refine cl_v I (runV (As := [.int (iI a)]) (rest := []) X (k_X9_readItem l G (U, S.2)  a  (by omega) (txq_ht htq ht) (txq_hc htq hc) (by show 0 ≤ U 51 0 ∧ U 51 0 ≤ 8; rw [hly.1]; exact hcn) hpi (by rw [txq htq]; exact hgo.1) (by rw [txq htq]; intro h; show U 51 0 < 8; rw [hly.1]; have := hgo.2.1; rw [if_pos h] at this; omega)) (gdC tb_303 (gdC tb_305 (gdC tb_1 (gdC tb_14 (gdC tb_306 gdB))))) ⟨ok_X9_readItem, ⟨Nat.le_of_ble_eq_true rfl, Nat.le_of_ble_eq_true rfl⟩, rfl, rfl⟩ (PreV.of (C := RX9) (T := TX9) (N := 14) I (atC_ns) rfl) rfl hl.1 rfl (Nat.le_of_ble_eq_true rfl) dX9_layText_42 ⟨Nat.zero_le _, Nat.zero_le _⟩) (fun V H locs q17 I => ?_)
          obtain ⟨V1, V2⟩ := V
          rw [po_ri (x := a) (txq (P := S.2) htq)] at q17
          obtain ⟨hA2, hq_⟩ := q17
          subst hA2
          have hlyV : lyI S.1 V1 S.2 (txat S) (i + 1).toNat := lyI_s hinj (by omega) ha hly hcn (by omega) hq_
          have htq : (∀ q : Int, V1 0 q = S.1 0 q) ∧ V1 50 0 = S.1 50 0 := ⟨fun q => hlyV.2.2.2.2.2.2 0 q (by omega) (by omega) (by omega), hlyV.2.2.2.2.2.2 50 0 (by omega) (by omega) (by omega)⟩
          refine lv_aload_n X.1 X.2.1 dX9_layText_45 rfl (lv_at hl 0 rfl) ?_
          refine gC_ns_text X I tb_377 dX9_layText_46 ?_
          refine lv_iload_n X.1 X.2.1 dX9_layText_49 rfl (lv_at hl 1 rfl) ?_
          refine cl_i I (runV (As := [.int (iI a)]) (rest := []) X (k_X7_behindItem l G (V1, S.2)  a  (by omega) (txq_ht htq ht) (txq_hc htq hc)) (gdC tb_351 (gdC tb_352 (gdC tb_353 (gdC tb_15 (gdC tb_354 gdB))))) ⟨ok_X7_behindItem, ⟨Nat.le_of_ble_eq_true rfl, Nat.le_of_ble_eq_true rfl⟩, rfl, rfl⟩ (PreV.of (C := RX7) (T := TX7) (N := 2) I (atC_text) rfl) rfl hl.1 rfl (Nat.le_of_ble_eq_true rfl) dX9_layText_50 ⟨Nat.zero_le _, Nat.zero_le _⟩) (fun r18 S19 H locs q20 I => ?_)
          obtain ⟨e1_, e2_⟩ := q20
          rw [e2_] at I
          rw [e1_, txq htq]
          clear e1_ e2_
          refine lv_istore_n (lv' := [(1, .int (iI (bItm (txat S) a))), (0, .ref (G.2.2 0)), (2, .int (iI i))]) X.1 X.2.1 dX9_layText_53 rfl hl (by decide) rfl (fun ls hl => ?_)
          refine ri_iinc X (k := 2) (v := (i + 1)) (lv' := [(2, .int (iI (i + 1))), (1, .int (iI (bItm (txat S) a))), (0, .ref (G.2.2 0))]) rfl dX9_layText_54 hl rfl (by decide) rfl (fun ls hl => ?_)
          refine lv_goto (tgt := 18) X.1 X.2.1 dX9_layText_57 (by decide) ?_
          exact ih_18 (bItm (txat S) a) (i + 1) V1 (by omega) (by omega) (by rw [itm_s (by omega), ← ha]) (by rw [cnt_s (by omega), ← ha]; exact hgo.2.2) (hlyV) (by rw [cnt_s (by omega), ← ha]; omega) (fun k hk => if h : k = i.toNat then (by rw [h, ← ha]; exact ⟨by omega, hgo.1⟩) else hall k (by omega)) _ _ I ls (lv_sub hl [2, 1, 0] rfl)
  exact lp_18 (201) 0 0 (us (us (us (us S.1 51 0) 53 3) 54 2) 55 1) (by omega) (by omega) (rfl) (by rw [show (200 - 0 : Int).toNat = 200 by omega]; exact hflt) (lyI_0) (by show 0 ≤ (0 : Int) ∧ (0 : Int) ≤ 8; omega) (fun k h => absurd h (by simp)) _ _ I ls (lv_sub hl [2, 1, 0] rfl)

theorem ok_X9_lay : yX9_lay.cls ≠ "java/lang/invoke/MethodHandle" ∧ yX9_lay.cls ≠ "java/lang/invoke/VarHandle" ∧ (parseMethodDescriptor yX9_lay.desc).map (fun d => d.parameters.length) = some 0 := ⟨by decide +kernel, by decide +kernel, by decide +kernel⟩
abbrev po_X9_lay (S : St)   : Int → St → Prop := fun r S1 => ((¬ flt (txat S) (S.1 50 0) 200 0 0 = -4 ∨ ¬ hasS (S.1 0) (S.1 50 0).toNat = true) ∧ r = -2 ∧ S1 = S) ∨ (flt (txat S) (S.1 50 0) 200 0 0 = -4 ∧ hasS (S.1 0) (S.1 50 0).toNat = true ∧ S1.2 = S.2 ∧ layP S.1 S1.1 S.2 (txat S) (S.1 50 0) ∧ r = S1.1 51 0)
abbrev rm_X9_lay : Room := ({ frames := 6, cells := 0, slots := 0, locals := 132 } : Room)
set_option maxRecDepth 100000 in
set_option maxHeartbeats 4000000 in
theorem k_X9_lay (l : Launch) (G : Ge) (S : St)    (N_ : Int) (hI : CI S N_) : Ki (KC G) l yX9_lay cX9_lay 1 .int rm_X9_lay [.ref (G.2.2 0)] S (po_X9_lay S) := by
  refine K_start (own := "NameSeeker") (by decide +kernel) rfl (Nat.le_of_ble_eq_true rfl) ?_
  intro p e s m args below meth c X hr hlk I ls hl
  have hl : lv_has ls 1 [(0, .ref (G.2.2 0))] := hl
  obtain ⟨ht, hc, hln, hsc, hcn, hpi, hinj, hnm, hwd, hkn, has, hnx⟩ := hI
  refine lv_aload_n X.1 X.2.1 dX9_lay_0 rfl (lv_at hl 0 rfl) ?_
  refine gC_ns_text X I tb_377 dX9_lay_1 ?_
  refine cl_i I (runV (As := []) (rest := []) X (k_X7_firstFault l G S    ht hc) (gdC tb_515 (gdC tb_516 (gdC tb_517 (gdC tb_15 (gdC tb_518 gdB))))) ⟨ok_X7_firstFault, ⟨Nat.le_of_ble_eq_true rfl, Nat.le_of_ble_eq_true rfl⟩, rfl, rfl⟩ (PreV.of (C := RX7) (T := TX7) (N := 2) I (atC_text) rfl) rfl hl.1 rfl (Nat.le_of_ble_eq_true rfl) dX9_lay_4 ⟨Nat.zero_le _, Nat.zero_le _⟩) (fun r1 S2 H locs q3 I => ?_)
  obtain ⟨e1_, e2_⟩ := q3
  rw [e2_] at I
  rw [e1_]
  clear e1_ e2_
  have hff := flt_b (f := txat S) (len := S.1 50 0) (by omega) (fun x => bItm_r ht x) 200 0 0 (by omega)
  refine ri_push X (v := (-4)) (by decide) dX9_lay_7 ?_
  refine rj_ne (tgt := 22) X (by omega) (by omega) dX9_lay_9 (by decide) (fun c4 => ?_) (fun c4 => ?_)
  · skip
    refine ri_push X (v := (-2)) (by decide) dX9_lay_22 ?_
    exact rt_i X hr hlk I rfl (by exact Or.inl ⟨by first | exact Or.inl (by assumption) | exact Or.inr (by assumption), rfl, rfl⟩) dX9_lay_24
  · skip
    refine lv_aload_n X.1 X.2.1 dX9_lay_12 rfl (lv_at hl 0 rfl) ?_
    refine gC_ns_text X I tb_377 dX9_lay_13 ?_
    refine cl_i I (runV (As := []) (rest := []) X (k_X7_hasName l G S    ht hc) (gdC tb_524 (gdC tb_525 (gdC tb_526 (gdC tb_15 (gdC tb_527 gdB))))) ⟨ok_X7_hasName, ⟨Nat.le_of_ble_eq_true rfl, Nat.le_of_ble_eq_true rfl⟩, rfl, rfl⟩ (PreV.of (C := RX7) (T := TX7) (N := 2) I (atC_text) rfl) rfl hl.1 rfl (Nat.le_of_ble_eq_true rfl) dX9_lay_16 ⟨Nat.zero_le _, Nat.zero_le _⟩) (fun r5 S6 H locs q7 I => ?_)
    obtain ⟨e1_, e2_⟩ := q7
    rw [e2_] at I
    rw [e1_]
    clear e1_ e2_
    rcases Decidable.em (hasS (S.1 0) (S.1 50 0).toNat = true) with b8 | b8
    · rw [bI_t b8]
      refine rz_ne (tgt := 25) X (by omega) dX9_lay_19 (by decide) (fun _ => ?_) (fun c9 => absurd c9 (by decide))
      refine lv_aload_n X.1 X.2.1 dX9_lay_25 rfl (lv_at hl 0 rfl) ?_
      refine cl_v I (runV (As := []) (rest := []) X (k_X9_layText l G S    ht hc hpi hinj (by assumption)) (gdC tb_287 (gdC tb_289 (gdC tb_0 (gdC tb_14 (gdC tb_290 gdB))))) ⟨ok_X9_layText, ⟨Nat.le_of_ble_eq_true rfl, Nat.le_of_ble_eq_true rfl⟩, rfl, rfl⟩ (PreV.of (C := RX9) (T := TX9) (N := 14) I (atC_ns) rfl) rfl hl.1 rfl (Nat.le_of_ble_eq_true rfl) dX9_lay_26 ⟨Nat.zero_le _, Nat.zero_le _⟩) (fun S11 H locs q12 I => ?_)
      obtain ⟨V1, V2⟩ := S11
      obtain ⟨hA2, hly⟩ := q12
      (try dsimp only at hA2 hly)
      subst hA2
      refine lv_aload_n X.1 X.2.1 dX9_lay_29 rfl (lv_at hl 0 rfl) ?_
      refine gC_ns_lot X I tb_378 dX9_lay_30 ?_
      refine gC_lot_size X I (v := (V1 51 0)) rfl tb_102 dX9_lay_33 ?_
      exact rt_i X hr hlk I rfl (by exact Or.inr (⟨by assumption, by assumption, rfl, hly, rfl⟩)) dX9_lay_36
    · rw [bI_f b8]
      refine rz_ne (tgt := 25) X (by omega) dX9_lay_19 (by decide) (fun c13 => absurd c13 (by decide)) (fun _ => ?_)
      refine ri_push X (v := (-2)) (by decide) dX9_lay_22 ?_
      exact rt_i X hr hlk I rfl (by exact Or.inl ⟨by first | exact Or.inl (by assumption) | exact Or.inr (by assumption), rfl, rfl⟩) dX9_lay_24
