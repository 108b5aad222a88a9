theorem ua_s7 {f : Nat → Int → Int} {c c2 : Nat} {i j v : Int} (h : ¬ c2 = c) : ua (ua f c i v) c2 j (f c2 j) = ua f c i v := by
  rw [show f c2 j = ua f c i v c2 j by rw [ua_nc h], ua_self]
theorem lnum_r (x : Int) (h : 0 ≤ x ∧ x ≤ 65535) : -65 ≤ lnum x ∧ lnum x ≤ 65535 := by unfold lnum; split <;> omega
theorem lnum_l (x : Int) (h : (97 ≤ x ∧ x ≤ 122) ∨ (65 ≤ x ∧ x ≤ 90)) : 0 ≤ lnum x ∧ lnum x ≤ 25 := by unfold lnum; split <;> omega
/-- the code of so many letters -/
def cdv (f : Int → Int) : Nat → Int
  | 0 => 0
  | n + 1 => (((53 * cdv f n) + (if (65 ≤ f n ∧ f n ≤ 90) then 26 else 0)) + lnum (f n)) + 1
theorem cdv_s0 {f : Int → Int} {i : Int} (hi : 0 ≤ i) (h : ¬ (65 ≤ f i ∧ f i ≤ 90)) : ((53 * cdv f i.toNat) + lnum (f i)) + 1 = cdv f (i + 1).toNat := by
  rw [show (i + 1).toNat = i.toNat + 1 by omega, cdv, show ((i.toNat : Nat) : Int) = i by omega, if_neg h]; omega
theorem cdv_s {f : Int → Int} {i g : Int} (hi : 0 ≤ i) (h : ((65 ≤ f i ∧ f i ≤ 90) ∧ g = 26) ∨ (¬ (65 ≤ f i ∧ f i ≤ 90) ∧ g = 0)) : (((53 * cdv f i.toNat) + g) + lnum (f i)) + 1 = cdv f (i + 1).toNat := by
  rw [show (i + 1).toNat = i.toNat + 1 by omega, cdv, show ((i.toNat : Nat) : Int) = i by omega]
  rcases h with ⟨h, rfl⟩ | ⟨h, rfl⟩
  · rw [if_pos h]
  · rw [if_neg h]
/-- the letters of a word, as bits -/
def wlb (f : Int → Int) : Nat → Int
  | 0 => 0
  | n + 1 => bor (wlb f n) (pw (lnum (f n)))
theorem wlb_s {f : Int → Int} {i : Int} (hi : 0 ≤ i) : bor (wlb f i.toNat) (pw (lnum (f i))) = wlb f (i + 1).toNat := by
  rw [show (i + 1).toNat = i.toNat + 1 by omega, wlb, show ((i.toNat : Nat) : Int) = i by omega]
theorem wlb_r (f : Int → Int) : ∀ n : Nat, (∀ i : Int, 0 ≤ i → i < n → ((97 ≤ f i ∧ f i ≤ 122) ∨ (65 ≤ f i ∧ f i ≤ 90))) → 0 ≤ wlb f n ∧ wlb f n < 2147483648
  | 0, _ => by rw [wlb]; omega
  | n + 1, h => by
    have h1 := wlb_r f n (fun i h2 h3 => h i h2 (by omega))
    have h2 := lnum_l (f n) (h n (by omega) (by omega))
    rw [wlb]
    exact bor_r h1 ⟨by have := pw_r (k := lnum (f n)) (by omega); omega, (pw_r (by omega)).2⟩
/-- a sign is alike to a letter, in a name of a kind -/
abbrev alk (s k x : Int) : Prop := s = x ∨ (¬ k = 1 ∧ ((97 ≤ s ∧ s ≤ 122) ∨ (65 ≤ s ∧ s ≤ 90)) ∧ lnum s = lnum x)
def opl (bg k b q : Int) : Int := if band bg (pw q) = 0 then 50 else if k = 2 ∧ q = 0 then 50 + 2 * b else 50 + b
def ost (k r g q x : Int) : Int := if x = q + 1 then r else if k = 3 then 0 else (-g) * ((x - q) - 1)

theorem ok_X8_clear : yX8_clear.cls ≠ "java/lang/invoke/MethodHandle" ∧ yX8_clear.cls ≠ "java/lang/invoke/VarHandle" ∧ (parseMethodDescriptor yX8_clear.desc).map (fun d => d.parameters.length) = some 0 := ⟨by decide +kernel, by decide +kernel, by decide +kernel⟩
abbrev po_X8_clear (S : St) (w : Nat)  : St → Prop := fun S1 => S1 = (ua S.1 8 (w : Int) 0, S.2)
abbrev rm_X8_clear : Room := ({ frames := 0, cells := 0, slots := 0, locals := 0 } : Room)
set_option maxRecDepth 100000 in
set_option maxHeartbeats 4000000 in
theorem k_X8_clear (l : Launch) (G : Ge) (S : St) (w : Nat)  (hw : w < 4) : Kv (KC G) l yX8_clear cX8_clear 1 rm_X8_clear [.ref (G.2.2 (6 + 2 * w))] S (po_X8_clear S w) := by
  refine K_start (own := "NameSeeker$Word") (by decide +kernel) rfl (Nat.le_of_ble_eq_true rfl) ?_
  intro p e s m args below meth c X hr hlk I ls hl
  have hl : lv_has ls 1 [(0, .ref (G.2.2 (6 + 2 * w)))] := hl
  refine lv_aload_n X.1 X.2.1 dX8_clear_0 rfl (lv_at hl 0 rfl) ?_
  refine ri_const X (v := 0) dX8_clear_1 ?_
  refine pC_word_size X I (w := w) hw tb_164 dX8_clear_2 (fun H locs I => ?_)
  have I : In (KC G) s s.heap H locs ((ua S.1 8 (w : Int) 0), S.2) := I
  exact rt_v X hr hlk I (by first | (exfalso; omega) | exact (rfl)) dX8_clear_5

theorem ok_X8_add : yX8_add.cls ≠ "java/lang/invoke/MethodHandle" ∧ yX8_add.cls ≠ "java/lang/invoke/VarHandle" ∧ (parseMethodDescriptor yX8_add.desc).map (fun d => d.parameters.length) = some 1 := ⟨by decide +kernel, by decide +kernel, by decide +kernel⟩
abbrev po_X8_add (S : St) (w : Nat) (x : Int) : St → Prop := fun S1 => S1 = (ua (ua S.1 (16 + w) (S.1 8 (w : Int)) x) 8 (w : Int) (S.1 8 (w : Int) + 1), S.2)
abbrev rm_X8_add : Room := ({ frames := 0, cells := 0, slots := 0, locals := 0 } : Room)
set_option maxRecDepth 100000 in
set_option maxHeartbeats 4000000 in
theorem k_X8_add (l : Launch) (G : Ge) (S : St) (w : Nat) (x : Int) (hw : w < 4) (hz : 0 ≤ S.1 8 (w : Int) ∧ S.1 8 (w : Int) < 6) (hx : 0 ≤ x ∧ x < 65536) : Kv (KC G) l yX8_add cX8_add 2 rm_X8_add [.ref (G.2.2 (6 + 2 * w)), .int (iI x)] S (po_X8_add S w x) := by
  refine K_start (own := "NameSeeker$Word") (by decide +kernel) rfl (Nat.le_of_ble_eq_true rfl) ?_
  intro p e s m args below meth c X hr hlk I ls hl
  have hl : lv_has ls 2 [(0, .ref (G.2.2 (6 + 2 * w))), (1, .int (iI x))] := hl
  refine lv_aload_n X.1 X.2.1 dX8_add_0 rfl (lv_at hl 0 rfl) ?_
  refine gC_word_size X I (w := w) hw (v := (S.1 8 (w : Int))) rfl tb_164 dX8_add_1 ?_
  refine ri_push X (v := 6) (by decide) dX8_add_4 ?_
  refine rj_ge (tgt := 29) X (by omega) (by omega) dX8_add_6 (by decide) (fun c1 => absurd c1 (by omega)) (fun _ => ?_)
  refine lv_aload_n X.1 X.2.1 dX8_add_9 rfl (lv_at hl 0 rfl) ?_
  refine gC_word_letters X I (w := w) hw tb_161 dX8_add_10 ?_
  refine lv_aload_n X.1 X.2.1 dX8_add_13 rfl (lv_at hl 0 rfl) ?_
  refine gC_word_size X I (w := w) hw (v := (S.1 8 (w : Int))) rfl tb_164 dX8_add_14 ?_
  refine lv_iload_n X.1 X.2.1 dX8_add_17 rfl (lv_at hl 1 rfl) ?_
  refine qC_word X I (w := w) hw (by omega) (by omega) dX8_add_18 (fun H locs I => ?_)
  have I : In (KC G) s s.heap H locs ((ua S.1 (16 + w) (S.1 8 (w : Int)) x), S.2) := I
  refine lv_aload_n X.1 X.2.1 dX8_add_19 rfl (lv_at hl 0 rfl) ?_
  refine lv_dup X.1 X.2.1 dX8_add_20 rfl ?_
  refine gC_word_size X I (w := w) hw (v := (S.1 8 (w : Int))) (by first | rfl | (dsimp only; repeat' (first | rw [us_eq] | rw [ua_eq] | rw [us_nc (by omega)] | rw [ua_nc (by omega)] | rw [ua_ni (by omega)]))) tb_164 dX8_add_21 ?_
  refine ri_const X (v := 1) dX8_add_24 ?_
  refine ri_add X (v := ((S.1 8 (w : Int)) + 1)) rfl dX8_add_25 ?_
  refine pC_word_size X I (w := w) hw tb_164 dX8_add_26 (fun H locs I => ?_)
  have I : In (KC G) s s.heap H locs ((ua (ua S.1 (16 + w) (S.1 8 (w : Int)) x) 8 (w : Int) ((S.1 8 (w : Int)) + 1)), S.2) := I
  exact rt_v X hr hlk I (by first | (exfalso; omega) | exact (rfl)) dX8_add_29

theorem ok_X8_removeLast : yX8_removeLast.cls ≠ "java/lang/invoke/MethodHandle" ∧ yX8_removeLast.cls ≠ "java/lang/invoke/VarHandle" ∧ (parseMethodDescriptor yX8_removeLast.desc).map (fun d => d.parameters.length) = some 0 := ⟨by decide +kernel, by decide +kernel, by decide +kernel⟩
abbrev po_X8_removeLast (S : St) (w : Nat)  : Int → St → Prop := fun r S1 => (S.1 8 (w : Int) = 0 ∧ r = -2 ∧ S1 = S) ∨ (0 < S.1 8 (w : Int) ∧ r = S.1 (16 + w) (S.1 8 (w : Int) - 1) ∧ S1 = (ua S.1 8 (w : Int) (S.1 8 (w : Int) - 1), S.2))
abbrev rm_X8_removeLast : Room := ({ frames := 0, cells := 0, slots := 0, locals := 0 } : Room)
set_option maxRecDepth 100000 in
set_option maxHeartbeats 4000000 in
theorem k_X8_removeLast (l : Launch) (G : Ge) (S : St) (w : Nat)  (hw : w < 4) (hz : 0 ≤ S.1 8 (w : Int) ∧ S.1 8 (w : Int) ≤ 6) : Ki (KC G) l yX8_removeLast cX8_removeLast 1 .int rm_X8_removeLast [.ref (G.2.2 (6 + 2 * w))] S (po_X8_removeLast S w) := by
  refine K_start (own := "NameSeeker$Word") (by decide +kernel) rfl (Nat.le_of_ble_eq_true rfl) ?_
  intro p e s m args below meth c X hr hlk I ls hl
  have hl : lv_has ls 1 [(0, .ref (G.2.2 (6 + 2 * w)))] := hl
  refine lv_aload_n X.1 X.2.1 dX8_removeLast_0 rfl (lv_at hl 0 rfl) ?_
  refine gC_word_size X I (w := w) hw (v := (S.1 8 (w : Int))) rfl tb_164 dX8_removeLast_1 ?_
  refine rz_ne (tgt := 10) X (by omega) dX8_removeLast_4 (by decide) (fun c1 => ?_) (fun c1 => ?_)
  · skip
    refine lv_aload_n X.1 X.2.1 dX8_removeLast_10 rfl (lv_at hl 0 rfl) ?_
    refine lv_dup X.1 X.2.1 dX8_removeLast_11 rfl ?_
    refine gC_word_size X I (w := w) hw (v := (S.1 8 (w : Int))) rfl tb_164 dX8_removeLast_12 ?_
    refine ri_const X (v := 1) dX8_removeLast_15 ?_
    refine ri_sub X (v := ((S.1 8 (w : Int)) - 1)) rfl dX8_removeLast_16 ?_
    refine pC_word_size X I (w := w) hw tb_164 dX8_removeLast_17 (fun H locs I => ?_)
    have I : In (KC G) s s.heap H locs ((ua S.1 8 (w : Int) ((S.1 8 (w : Int)) - 1)), S.2) := I
    refine lv_aload_n X.1 X.2.1 dX8_removeLast_20 rfl (lv_at hl 0 rfl) ?_
    refine gC_word_letters X I (w := w) hw tb_161 dX8_removeLast_21 ?_
    refine lv_aload_n X.1 X.2.1 dX8_removeLast_24 rfl (lv_at hl 0 rfl) ?_
    refine gC_word_size X I (w := w) hw (v := ((S.1 8 (w : Int)) - 1)) (by first | rfl | (dsimp only; repeat' (first | rw [us_eq] | rw [ua_eq] | rw [us_nc (by omega)] | rw [ua_nc (by omega)] | rw [ua_ni (by omega)]))) tb_164 dX8_removeLast_25 ?_
    refine aC_word X I (w := w) hw (v := (S.1 (16 + w) ((S.1 8 (w : Int)) - 1))) (by first | rfl | (dsimp only; repeat' (first | rw [us_eq] | rw [ua_eq] | rw [us_nc (by omega)] | rw [ua_nc (by omega)] | rw [ua_ni (by omega)]))) (by omega) dX8_removeLast_28 ?_
    exact rt_i X hr hlk I rfl (by first | (exfalso; omega) | exact (Or.inr ⟨by omega, rfl, rfl⟩)) dX8_removeLast_29
  · skip
    refine ri_push X (v := (-2)) (by decide) dX8_removeLast_7 ?_
    exact rt_i X hr hlk I rfl (by first | (exfalso; omega) | exact (Or.inl ⟨by omega, rfl, rfl⟩)) dX8_removeLast_9

theorem ok_X8_copy : yX8_copy.cls ≠ "java/lang/invoke/MethodHandle" ∧ yX8_copy.cls ≠ "java/lang/invoke/VarHandle" ∧ (parseMethodDescriptor yX8_copy.desc).map (fun d => d.parameters.length) = some 1 := ⟨by decide +kernel, by decide +kernel, by decide +kernel⟩
abbrev po_X8_copy (S : St) (w : Nat) (v : Nat)  : St → Prop := fun S1 => S1.2 = S.2 ∧ S1.1 8 (w : Int) = S.1 8 (v : Int) ∧ (∀ i : Int, 0 ≤ i → i < S.1 8 (v : Int) → S1.1 (16 + w) i = S.1 (16 + v) i) ∧ ∀ (c_ : Nat) (i : Int), ¬ c_ = 16 + w → ¬ (c_ = 8 ∧ i = (w : Int)) → S1.1 c_ i = S.1 c_ i
abbrev rm_X8_copy : Room := ({ frames := 0, cells := 0, slots := 0, locals := 0 } : Room)
set_option maxRecDepth 100000 in
set_option maxHeartbeats 4000000 in
theorem k_X8_copy (l : Launch) (G : Ge) (S : St) (w : Nat) (v : Nat)  (hw : w < 4) (hv : v < 4) (hne : ¬ w = v) (hz : 0 ≤ S.1 8 (v : Int) ∧ S.1 8 (v : Int) ≤ 6) (hL : ∀ i : Int, 0 ≤ i → i < S.1 8 (v : Int) → 0 ≤ S.1 (16 + v) i ∧ S.1 (16 + v) i < 65536) : Kv (KC G) l yX8_copy cX8_copy 3 rm_X8_copy [.ref (G.2.2 (6 + 2 * w)), .ref (G.2.2 (6 + 2 * v))] S (po_X8_copy S w v) := by
  refine K_start (own := "NameSeeker$Word") (by decide +kernel) rfl (Nat.le_of_ble_eq_true rfl) ?_
  intro p e s m args below meth c X hr hlk I ls hl
  have hl : lv_has ls 3 [(0, .ref (G.2.2 (6 + 2 * w))), (1, .ref (G.2.2 (6 + 2 * v)))] := hl
  refine lv_aload_n X.1 X.2.1 dX8_copy_0 rfl (lv_at hl 0 rfl) ?_
  refine lv_aload_n X.1 X.2.1 dX8_copy_1 rfl (lv_at hl 1 rfl) ?_
  refine gC_word_size X I (w := v) hv (v := (S.1 8 (v : Int))) rfl tb_164 dX8_copy_2 ?_
  refine pC_word_size X I (w := w) hw tb_164 dX8_copy_5 (fun H locs I => ?_)
  have I : In (KC G) s s.heap H locs ((ua S.1 8 (w : Int) (S.1 8 (v : Int))), S.2) := I
  refine ri_const X (v := 0) dX8_copy_8 ?_
  refine lv_istore_n (lv' := [(2, .int (iI 0)), (0, .ref (G.2.2 (6 + 2 * w))), (1, .ref (G.2.2 (6 + 2 * v)))]) X.1 X.2.1 dX8_copy_9 rfl hl (by decide) rfl (fun ls hl => ?_)
  have lp_10 : ∀ (n_ : Nat) (i : Int) (T : St), (6 - i).toNat < n_ → ∀ (hi : 0 ≤ i ∧ i ≤ S.1 8 (v : Int)) (h2 : T.2 = S.2) (h8 : T.1 8 (w : Int) = S.1 8 (v : Int)) (hl2 : ∀ j : Int, 0 ≤ j → j < i → T.1 (16 + w) j = S.1 (16 + v) j) (hf : ∀ (c_ : Nat) (j : Int), ¬ c_ = 16 + w → ¬ (c_ = 8 ∧ j = (w : Int)) → T.1 c_ j = S.1 c_ j) (H : Heap) (locs : List Loc), In (KC G) s s.heap H locs T → ∀ ls : Array Slot, lv_has ls 3 [(0, .ref (G.2.2 (6 + 2 * w))), (1, .ref (G.2.2 (6 + 2 * v))), (2, .int (iI i))] → W p l e rm_X8_copy s m args below meth c H locs 0 0 (MQ below (QV (KC G) (po_X8_copy S w v)) args s 0 0 (KC G).2.2.2) (F0 m 10 ls []) := by
    intro n_
    induction n_ with
    | zero => intro i T hm; exact absurd hm (by omega)
    | succ n_ ih_10 =>
      intro i T hm_10 hi h2 h8 hl2 hf H locs I ls hl
      refine lv_iload_n X.1 X.2.1 dX8_copy_10 rfl (lv_at hl 2 rfl) ?_
      refine lv_aload_n X.1 X.2.1 dX8_copy_11 rfl (lv_at hl 0 rfl) ?_
      refine gC_word_size X I (w := w) hw (v := (T.1 8 (w : Int))) rfl tb_164 dX8_copy_12 ?_
      refine rj_ge (tgt := 36) X (by omega) (by omega) dX8_copy_15 (by decide) (fun c1 => ?_) (fun c1 => ?_)
      · skip
        exact rt_v X hr hlk I (by first | (exfalso; omega) | exact (⟨h2, h8, fun j h1 h3 => hl2 j h1 (by omega), hf⟩)) dX8_copy_36
      · skip
        have hLi := hL i (by omega) (by omega)
        have hTi := hf (16 + v) i (by omega) (by omega)
        refine lv_aload_n X.1 X.2.1 dX8_copy_18 rfl (lv_at hl 0 rfl) ?_
        refine gC_word_letters X I (w := w) hw tb_161 dX8_copy_19 ?_
        refine lv_iload_n X.1 X.2.1 dX8_copy_22 rfl (lv_at hl 2 rfl) ?_
        refine lv_aload_n X.1 X.2.1 dX8_copy_23 rfl (lv_at hl 1 rfl) ?_
        refine gC_word_letters X I (w := v) hv tb_161 dX8_copy_24 ?_
        refine lv_iload_n X.1 X.2.1 dX8_copy_27 rfl (lv_at hl 2 rfl) ?_
        refine aC_word X I (w := v) hv (v := (T.1 (16 + v) i)) rfl (by omega) dX8_copy_28 ?_
        refine qC_word X I (w := w) hw (by omega) (by omega) dX8_copy_29 (fun H locs I => ?_)
        have I : In (KC G) s s.heap H locs ((ua T.1 (16 + w) i (T.1 (16 + v) i)), T.2) := I
        refine ri_iinc X (k := 2) (v := (i + 1)) (lv' := [(2, .int (iI (i + 1))), (0, .ref (G.2.2 (6 + 2 * w))), (1, .ref (G.2.2 (6 + 2 * v)))]) rfl dX8_copy_30 hl rfl (by decide) rfl (fun ls hl => ?_)
        refine lv_goto (tgt := 10) X.1 X.2.1 dX8_copy_33 (by decide) ?_
        exact ih_10 (i + 1) ((ua T.1 (16 + w) i (T.1 (16 + v) i)), T.2) (by omega) (by omega) (h2) (by show ua T.1 _ _ _ _ _ = _; rw [ua_at, if_neg (by omega)]; exact h8) (fun j h1 h3 => if hj : j = i then (by show ua T.1 _ _ _ _ _ = _; rw [ua_at, if_pos ⟨rfl, hj⟩, hj]; exact hf _ _ (by omega) (by omega)) else (by show ua T.1 _ _ _ _ _ = _; rw [ua_at, if_neg (fun q => hj q.2)]; exact hl2 j h1 (by omega))) (fun c_ j h1 h3 => by show ua T.1 _ _ _ _ _ = _; rw [ua_at, if_neg (fun q => h1 q.1)]; exact hf c_ j h1 h3) _ _ I ls (lv_sub hl [1, 2, 0] rfl)
  exact lp_10 (7) 0 ((ua S.1 8 (w : Int) (S.1 8 (v : Int))), S.2) (by omega) (by omega) (rfl) (by simp [ua_at]) (fun j h1 h2 => absurd h2 (by omega)) (fun c_ j h1 h2 => by show ua S.1 8 _ _ c_ j = _; rw [ua_at, if_neg h2]) _ _ I ls (lv_sub hl [1, 2, 0] rfl)

theorem ok_X8_code : yX8_code.cls ≠ "java/lang/invoke/MethodHandle" ∧ yX8_code.cls ≠ "java/lang/invoke/VarHandle" ∧ (parseMethodDescriptor yX8_code.desc).map (fun d => d.parameters.length) = some 0 := ⟨by decide +kernel, by decide +kernel, by decide +kernel⟩
abbrev po_X8_code (S : St) (w : Nat)  : Int → St → Prop := fun r S1 => r = cdv (S.1 (16 + w)) (S.1 8 (w : Int)).toNat ∧ S1 = S
abbrev rm_X8_code : Room := ({ frames := 2, cells := 0, slots := 0, locals := 40 } : Room)
set_option maxRecDepth 100000 in
set_option maxHeartbeats 4000000 in
theorem k_X8_code (l : Launch) (G : Ge) (S : St) (w : Nat)  (hw : w < 4) (hz : 0 ≤ S.1 8 (w : Int) ∧ S.1 8 (w : Int) ≤ 6) (hL : ∀ i : Int, 0 ≤ i → i < S.1 8 (w : Int) → ((97 ≤ S.1 (16 + w) i ∧ S.1 (16 + w) i ≤ 122) ∨ (65 ≤ S.1 (16 + w) i ∧ S.1 (16 + w) i ≤ 90))) : Kl (KC G) l yX8_code cX8_code 5 rm_X8_code [.ref (G.2.2 (6 + 2 * w))] S (po_X8_code S w) := by
  refine K_start (own := "NameSeeker$Word") (by decide +kernel) rfl (Nat.le_of_ble_eq_true rfl) ?_
  intro p e s m args below meth c X hr hlk I ls hl
  have hl : lv_has ls 5 [(0, .ref (G.2.2 (6 + 2 * w)))] := hl
  refine lv_lconst (v := lI 0) X.1 X.2.1 dX8_code_0 rfl ?_
  refine lv_lstore_n (lv' := [(1, .long (lI 0)), (0, .ref (G.2.2 (6 + 2 * w)))]) X.1 X.2.1 dX8_code_1 rfl hl (by decide) rfl (fun ls hl => ?_)
  refine ri_const X (v := 0) dX8_code_2 ?_
  refine lv_istore_n (lv' := [(3, .int (iI 0)), (1, .long (lI 0)), (0, .ref (G.2.2 (6 + 2 * w)))]) X.1 X.2.1 dX8_code_3 rfl hl (by decide) rfl (fun ls hl => ?_)
  have lp_4 : ∀ (n_ : Nat) (i : Int), (6 - i).toNat < n_ → ∀ (hi : 0 ≤ i ∧ i ≤ S.1 8 (w : Int)) (H : Heap) (locs : List Loc), In (KC G) s s.heap H locs S → ∀ ls : Array Slot, lv_has ls 5 [(0, .ref (G.2.2 (6 + 2 * w))), (1, .long (lI (cdv (S.1 (16 + w)) i.toNat))), (3, .int (iI i))] → W p l e rm_X8_code s m args below meth c H locs 0 0 (MQ below (QL (KC G) (po_X8_code S w)) args s 0 0 (KC G).2.2.2) (F0 m 4 ls []) := by
    intro n_
    induction n_ with
    | zero => intro i hm; exact absurd hm (by omega)
    | succ n_ ih_4 =>
      intro i hm_4 hi H locs I ls hl
      refine lv_iload_n X.1 X.2.1 dX8_code_4 rfl (lv_at hl 2 rfl) ?_
      refine lv_aload_n X.1 X.2.1 dX8_code_5 rfl (lv_at hl 0 rfl) ?_
      refine gC_word_size X I (w := w) hw (v := (S.1 8 (w : Int))) rfl tb_164 dX8_code_6 ?_
      refine rj_ge (tgt := 61) X (by omega) (by omega) dX8_code_9 (by decide) (fun c1 => ?_) (fun c1 => ?_)
      · skip
        refine lv_lload_n X.1 X.2.1 dX8_code_61 rfl (lv_at hl 1 rfl) ?_
        exact rt_l X hr hlk I (by first | (exfalso; omega) | exact (⟨by rw [show S.1 8 (w : Int) = i by omega], rfl⟩)) dX8_code_62
      · skip
        have hLi := hL i (by omega) (by omega)
        refine lv_aload_n X.1 X.2.1 dX8_code_12 rfl (lv_at hl 0 rfl) ?_
        refine gC_word_letters X I (w := w) hw tb_161 dX8_code_13 ?_
        refine lv_iload_n X.1 X.2.1 dX8_code_16 rfl (lv_at hl 2 rfl) ?_
        refine aC_word X I (w := w) hw (v := (S.1 (16 + w) i)) rfl (by omega) dX8_code_17 ?_
        refine cl_i I (runSN (As := [.int (iI (S.1 (16 + w) i))]) (rest := []) X (k_X9_isGreat l G S  (S.1 (16 + w) i) (by omega)) (gdC tb_360 gdB) (I.2.2.2.2 _ (List.mem_of_getElem? (i := 5) rfl)) tb_359 tb_34 ⟨ok_X9_isGreat, ⟨Nat.le_of_ble_eq_true rfl, Nat.le_of_ble_eq_true rfl⟩, rfl, rfl⟩ (PreS.of I) rfl hl.1 rfl (Nat.le_of_ble_eq_true rfl) dX8_code_18 ⟨Nat.zero_le _, Nat.zero_le _⟩) (fun r2 S3 H locs q4 I => ?_)
        obtain ⟨e1_, e2_⟩ := q4
        rw [e2_] at I
        rw [e1_]
        clear e1_ e2_
        rcases Decidable.em ((65 ≤ ((S.1 (16 + w) i)) ∧ ((S.1 (16 + w) i)) ≤ 90)) with b5 | b5
        · rw [bI_t b5]
          refine rz_eq (tgt := 29) X (by omega) dX8_code_21 (by decide) (fun c6 => absurd c6 (by decide)) (fun _ => ?_)
          refine ri_push X (v := 26) (by decide) dX8_code_24 ?_
          refine lv_goto (tgt := 30) X.1 X.2.1 dX8_code_26 (by decide) ?_
          refine lv_istore (lv' := [(4, .int (iI 26)), (0, .ref (G.2.2 (6 + 2 * w))), (1, .long (lI (cdv (S.1 (16 + w)) i.toNat))), (3, .int (iI i))]) X.1 X.2.1 dX8_code_30 hl (by decide) rfl (fun ls hl => ?_)
          refine ri_ldc2 X (v := 53) tb_551 rfl dX8_code_32 ?_
          refine lv_lload_n X.1 X.2.1 dX8_code_35 rfl (lv_at hl 2 rfl) ?_
          refine ri_lmul X (v := (53 * (cdv (S.1 (16 + w)) i.toNat))) rfl dX8_code_36 ?_
          refine lv_iload X.1 X.2.1 dX8_code_37 (lv_at hl 0 rfl) ?_
          refine ri_i2l X (by omega) dX8_code_39 ?_
          refine ri_ladd X (v := ((53 * (cdv (S.1 (16 + w)) i.toNat)) + 26)) rfl dX8_code_40 ?_
          refine lv_aload_n X.1 X.2.1 dX8_code_41 rfl (lv_at hl 1 rfl) ?_
          refine gC_word_letters X I (w := w) hw tb_161 dX8_code_42 ?_
          refine lv_iload_n X.1 X.2.1 dX8_code_45 rfl (lv_at hl 3 rfl) ?_
          refine aC_word X I (w := w) hw (v := (S.1 (16 + w) i)) rfl (by omega) dX8_code_46 ?_
          refine cl_i I (runSN (As := [.int (iI (S.1 (16 + w) i))]) (rest := [.long (lI ((53 * (cdv (S.1 (16 + w)) i.toNat)) + 26))]) X (k_X9_letterNumber l G S  (S.1 (16 + w) i) (by omega)) (gdC tb_374 gdB) (I.2.2.2.2 _ (List.mem_of_getElem? (i := 6) rfl)) tb_373 tb_34 ⟨ok_X9_letterNumber, ⟨Nat.le_of_ble_eq_true rfl, Nat.le_of_ble_eq_true rfl⟩, rfl, rfl⟩ (PreS.of I) rfl hl.1 rfl (Nat.le_of_ble_eq_true rfl) dX8_code_47 ⟨Nat.zero_le _, Nat.zero_le _⟩) (fun r7 S8 H locs q9 I => ?_)
          obtain ⟨e1_, e2_⟩ := q9
          rw [e2_] at I
          rw [e1_]
          clear e1_ e2_
          have hnr := lnum_r (S.1 (16 + w) i) (by omega)
          refine ri_i2l X (by omega) dX8_code_50 ?_
          refine ri_ladd X (v := (((53 * (cdv (S.1 (16 + w)) i.toNat)) + 26) + (lnum (S.1 (16 + w) i)))) rfl dX8_code_51 ?_
          refine lv_lconst (v := lI 1) X.1 X.2.1 dX8_code_52 rfl ?_
          refine ri_ladd X (v := ((((53 * (cdv (S.1 (16 + w)) i.toNat)) + 26) + (lnum (S.1 (16 + w) i))) + 1)) rfl dX8_code_53 ?_
          refine lv_lstore_n (lv' := [(1, .long (lI ((((53 * (cdv (S.1 (16 + w)) i.toNat)) + 26) + (lnum (S.1 (16 + w) i))) + 1))), (4, .int (iI 26)), (0, .ref (G.2.2 (6 + 2 * w))), (3, .int (iI i))]) X.1 X.2.1 dX8_code_54 rfl hl (by decide) rfl (fun ls hl => ?_)
          refine ri_iinc X (k := 3) (v := (i + 1)) (lv' := [(3, .int (iI (i + 1))), (1, .long (lI ((((53 * (cdv (S.1 (16 + w)) i.toNat)) + 26) + (lnum (S.1 (16 + w) i))) + 1))), (4, .int (iI 26)), (0, .ref (G.2.2 (6 + 2 * w)))]) rfl dX8_code_55 hl rfl (by decide) rfl (fun ls hl => ?_)
          refine lv_goto (tgt := 4) X.1 X.2.1 dX8_code_58 (by decide) ?_
          have hl : lv_has ls 5 [(3, .int (iI (i + 1))), (1, .long (lI (cdv (S.1 (16 + w)) (i + 1).toNat))), (4, .int (iI 26)), (0, .ref (G.2.2 (6 + 2 * w)))] := by
            have e_ : ((((53 * (cdv (S.1 (16 + w)) i.toNat)) + 26) + (lnum (S.1 (16 + w) i))) + 1) = (cdv (S.1 (16 + w)) (i + 1).toNat) := by first | exact cdv_s0 (by omega) (by omega) | exact cdv_s (by omega) (by omega)
            rw [← e_]; exact hl
          exact ih_4 (i + 1) (by omega) (by omega) _ _ I ls (lv_sub hl [3, 1, 0] rfl)
        · rw [bI_f b5]
          refine rz_eq (tgt := 29) X (by omega) dX8_code_21 (by decide) (fun _ => ?_) (fun c10 => absurd c10 (fun q => q (by decide)))
          refine ri_const X (v := 0) dX8_code_29 ?_
          refine lv_istore (lv' := [(4, .int (iI 0)), (0, .ref (G.2.2 (6 + 2 * w))), (1, .long (lI (cdv (S.1 (16 + w)) i.toNat))), (3, .int (iI i))]) X.1 X.2.1 dX8_code_30 hl (by decide) rfl (fun ls hl => ?_)
          refine ri_ldc2 X (v := 53) tb_551 rfl dX8_code_32 ?_
          refine lv_lload_n X.1 X.2.1 dX8_code_35 rfl (lv_at hl 2 rfl) ?_
          refine ri_lmul X (v := (53 * (cdv (S.1 (16 + w)) i.toNat))) rfl dX8_code_36 ?_
          refine lv_iload X.1 X.2.1 dX8_code_37 (lv_at hl 0 rfl) ?_
          refine ri_i2l X (by omega) dX8_code_39 ?_
          refine ri_ladd X (v := (53 * (cdv (S.1 (16 + w)) i.toNat))) (by omega) dX8_code_40 ?_
          refine lv_aload_n X.1 X.2.1 dX8_code_41 rfl (lv_at hl 1 rfl) ?_
          refine gC_word_letters X I (w := w) hw tb_161 dX8_code_42 ?_
          refine lv_iload_n X.1 X.2.1 dX8_code_45 rfl (lv_at hl 3 rfl) ?_
          refine aC_word X I (w := w) hw (v := (S.1 (16 + w) i)) rfl (by omega) dX8_code_46 ?_
          refine cl_i I (runSN (As := [.int (iI (S.1 (16 + w) i))]) (rest := [.long (lI (53 * (cdv (S.1 (16 + w)) i.toNat)))]) X (k_X9_letterNumber l G S  (S.1 (16 + w) i) (by omega)) (gdC tb_374 gdB) (I.2.2.2.2 _ (List.mem_of_getElem? (i := 6) rfl)) tb_373 tb_34 ⟨ok_X9_letterNumber, ⟨Nat.le_of_ble_eq_true rfl, Nat.le_of_ble_eq_true rfl⟩, rfl, rfl⟩ (PreS.of I) rfl hl.1 rfl (Nat.le_of_ble_eq_true rfl) dX8_code_47 ⟨Nat.zero_le _, Nat.zero_le _⟩) (fun r11 S12 H locs q13 I => ?_)
          obtain ⟨e1_, e2_⟩ := q13
          rw [e2_] at I
          rw [e1_]
          clear e1_ e2_
          have hnr := lnum_r (S.1 (16 + w) i) (by omega)
          refine ri_i2l X (by omega) dX8_code_50 ?_
          refine ri_ladd X (v := ((53 * (cdv (S.1 (16 + w)) i.toNat)) + (lnum (S.1 (16 + w) i)))) rfl dX8_code_51 ?_
          refine lv_lconst (v := lI 1) X.1 X.2.1 dX8_code_52 rfl ?_
          refine ri_ladd X (v := (((53 * (cdv (S.1 (16 + w)) i.toNat)) + (lnum (S.1 (16 + w) i))) + 1)) rfl dX8_code_53 ?_
          refine lv_lstore_n (lv' := [(1, .long (lI (((53 * (cdv (S.1 (16 + w)) i.toNat)) + (lnum (S.1 (16 + w) i))) + 1))), (4, .int (iI 0)), (0, .ref (G.2.2 (6 + 2 * w))), (3, .int (iI i))]) X.1 X.2.1 dX8_code_54 rfl hl (by decide) rfl (fun ls hl => ?_)
          refine ri_iinc X (k := 3) (v := (i + 1)) (lv' := [(3, .int (iI (i + 1))), (1, .long (lI (((53 * (cdv (S.1 (16 + w)) i.toNat)) + (lnum (S.1 (16 + w) i))) + 1))), (4, .int (iI 0)), (0, .ref (G.2.2 (6 + 2 * w)))]) rfl dX8_code_55 hl rfl (by decide) rfl (fun ls hl => ?_)
          refine lv_goto (tgt := 4) X.1 X.2.1 dX8_code_58 (by decide) ?_
          have hl : lv_has ls 5 [(3, .int (iI (i + 1))), (1, .long (lI (cdv (S.1 (16 + w)) (i + 1).toNat))), (4, .int (iI 0)), (0, .ref (G.2.2 (6 + 2 * w)))] := by
            have e_ : (((53 * (cdv (S.1 (16 + w)) i.toNat)) + (lnum (S.1 (16 + w) i))) + 1) = (cdv (S.1 (16 + w)) (i + 1).toNat) := by first | exact cdv_s0 (by omega) (by omega) | exact cdv_s (by omega) (by omega)
            rw [← e_]; exact hl
          exact ih_4 (i + 1) (by omega) (by omega) _ _ I ls (lv_sub hl [3, 1, 0] rfl)
  have hl : lv_has ls 5 [(3, .int (iI 0)), (1, .long (lI (cdv (S.1 (16 + w)) (0 : Int).toNat))), (0, .ref (G.2.2 (6 + 2 * w)))] := by
    have e_ : 0 = (cdv (S.1 (16 + w)) (0 : Int).toNat) := rfl
    rw [← e_]; exact hl
  exact lp_4 (7) 0 (by omega) (by omega) _ _ I ls (lv_sub hl [2, 1, 0] rfl)

theorem ok_X8_letterBits : yX8_letterBits.cls ≠ "java/lang/invoke/MethodHandle" ∧ yX8_letterBits.cls ≠ "java/lang/invoke/VarHandle" ∧ (parseMethodDescriptor yX8_letterBits.desc).map (fun d => d.parameters.length) = some 0 := ⟨by decide +kernel, by decide +kernel, by decide +kernel⟩
abbrev po_X8_letterBits (S : St) (w : Nat)  : Int → St → Prop := fun r S1 => r = wlb (S.1 (16 + w)) (S.1 8 (w : Int)).toNat ∧ S1 = S
abbrev rm_X8_letterBits : Room := ({ frames := 2, cells := 0, slots := 0, locals := 40 } : Room)
set_option maxRecDepth 100000 in
set_option maxHeartbeats 4000000 in
theorem k_X8_letterBits (l : Launch) (G : Ge) (S : St) (w : Nat)  (hw : w < 4) (hz : 0 ≤ S.1 8 (w : Int) ∧ S.1 8 (w : Int) ≤ 6) (hL : ∀ i : Int, 0 ≤ i → i < S.1 8 (w : Int) → ((97 ≤ S.1 (16 + w) i ∧ S.1 (16 + w) i ≤ 122) ∨ (65 ≤ S.1 (16 + w) i ∧ S.1 (16 + w) i ≤ 90))) : Ki (KC G) l yX8_letterBits cX8_letterBits 3 .int rm_X8_letterBits [.ref (G.2.2 (6 + 2 * w))] S (po_X8_letterBits S w) := by
  refine K_start (own := "NameSeeker$Word") (by decide +kernel) rfl (Nat.le_of_ble_eq_true rfl) ?_
  intro p e s m args below meth c X hr hlk I ls hl
  have hl : lv_has ls 3 [(0, .ref (G.2.2 (6 + 2 * w)))] := hl
  refine ri_const X (v := 0) dX8_letterBits_0 ?_
  refine lv_istore_n (lv' := [(1, .int (iI 0)), (0, .ref (G.2.2 (6 + 2 * w)))]) X.1 X.2.1 dX8_letterBits_1 rfl hl (by decide) rfl (fun ls hl => ?_)
  refine ri_const X (v := 0) dX8_letterBits_2 ?_
  refine lv_istore_n (lv' := [(2, .int (iI 0)), (1, .int (iI 0)), (0, .ref (G.2.2 (6 + 2 * w)))]) X.1 X.2.1 dX8_letterBits_3 rfl hl (by decide) rfl (fun ls hl => ?_)
  have lp_4 : ∀ (n_ : Nat) (i : Int), (6 - i).toNat < n_ → ∀ (hi : 0 ≤ i ∧ i ≤ S.1 8 (w : Int)) (H : Heap) (locs : List Loc), In (KC G) s s.heap H locs S → ∀ ls : Array Slot, lv_has ls 3 [(0, .ref (G.2.2 (6 + 2 * w))), (1, .int (iI (wlb (S.1 (16 + w)) i.toNat))), (2, .int (iI i))] → W p l e rm_X8_letterBits s m args below meth c H locs 0 0 (MQ below (QI (KC G) (po_X8_letterBits S w)) args s 0 0 (KC G).2.2.2) (F0 m 4 ls []) := by
    intro n_
    induction n_ with
    | zero => intro i hm; exact absurd hm (by omega)
    | succ n_ ih_4 =>
      intro i hm_4 hi H locs I ls hl
      refine lv_iload_n X.1 X.2.1 dX8_letterBits_4 rfl (lv_at hl 2 rfl) ?_
      refine lv_aload_n X.1 X.2.1 dX8_letterBits_5 rfl (lv_at hl 0 rfl) ?_
      refine gC_word_size X I (w := w) hw (v := (S.1 8 (w : Int))) rfl tb_164 dX8_letterBits_6 ?_
      refine rj_ge (tgt := 32) X (by omega) (by omega) dX8_letterBits_9 (by decide) (fun c1 => ?_) (fun c1 => ?_)
      · skip
        refine lv_iload_n X.1 X.2.1 dX8_letterBits_32 rfl (lv_at hl 1 rfl) ?_
        exact rt_i X hr hlk I rfl (by first | (exfalso; omega) | exact (⟨by rw [show S.1 8 (w : Int) = i by omega], rfl⟩)) dX8_letterBits_33
      · skip
        have hLi := hL i (by omega) (by omega)
        have hbr := wlb_r (S.1 (16 + w)) i.toNat (fun j h1 h2 => hL j h1 (by omega))
        refine lv_iload_n X.1 X.2.1 dX8_letterBits_12 rfl (lv_at hl 1 rfl) ?_
        refine ri_const X (v := 1) dX8_letterBits_13 ?_
        refine lv_aload_n X.1 X.2.1 dX8_letterBits_14 rfl (lv_at hl 0 rfl) ?_
        refine gC_word_letters X I (w := w) hw tb_161 dX8_letterBits_15 ?_
        refine lv_iload_n X.1 X.2.1 dX8_letterBits_18 rfl (lv_at hl 2 rfl) ?_
        refine aC_word X I (w := w) hw (v := (S.1 (16 + w) i)) rfl (by omega) dX8_letterBits_19 ?_
        refine cl_i I (runSN (As := [.int (iI (S.1 (16 + w) i))]) (rest := [.int (iI 1), .int (iI (wlb (S.1 (16 + w)) i.toNat))]) X (k_X9_letterNumber l G S  (S.1 (16 + w) i) (by omega)) (gdC tb_374 gdB) (I.2.2.2.2 _ (List.mem_of_getElem? (i := 6) rfl)) tb_373 tb_34 ⟨ok_X9_letterNumber, ⟨Nat.le_of_ble_eq_true rfl, Nat.le_of_ble_eq_true rfl⟩, rfl, rfl⟩ (PreS.of I) rfl hl.1 rfl (Nat.le_of_ble_eq_true rfl) dX8_letterBits_20 ⟨Nat.zero_le _, Nat.zero_le _⟩) (fun r2 S3 H locs q4 I => ?_)
        obtain ⟨e1_, e2_⟩ := q4
        rw [e2_] at I
        rw [e1_]
        clear e1_ e2_
        have hnr := lnum_r (S.1 (16 + w) i) (by omega)
        have hn2 := lnum_l (S.1 (16 + w) i) hLi
        refine ri_shl X (by omega) dX8_letterBits_23 ?_
        have t5 := pw_r (k := (lnum (S.1 (16 + w) i))) (by omega)
        refine ri_or X (by omega) (by omega) dX8_letterBits_24 ?_
        have t6 := bor_r (a := (wlb (S.1 (16 + w)) i.toNat)) (b := (pw (lnum (S.1 (16 + w) i)))) (by omega) (by omega)
        refine lv_istore_n (lv' := [(1, .int (iI (bor (wlb (S.1 (16 + w)) i.toNat) (pw (lnum (S.1 (16 + w) i)))))), (0, .ref (G.2.2 (6 + 2 * w))), (2, .int (iI i))]) X.1 X.2.1 dX8_letterBits_25 rfl hl (by decide) rfl (fun ls hl => ?_)
        refine ri_iinc X (k := 2) (v := (i + 1)) (lv' := [(2, .int (iI (i + 1))), (1, .int (iI (bor (wlb (S.1 (16 + w)) i.toNat) (pw (lnum (S.1 (16 + w) i)))))), (0, .ref (G.2.2 (6 + 2 * w)))]) rfl dX8_letterBits_26 hl rfl (by decide) rfl (fun ls hl => ?_)
        refine lv_goto (tgt := 4) X.1 X.2.1 dX8_letterBits_29 (by decide) ?_
        have hl : lv_has ls 3 [(2, .int (iI (i + 1))), (1, .int (iI (wlb (S.1 (16 + w)) (i + 1).toNat))), (0, .ref (G.2.2 (6 + 2 * w)))] := by
          have e_ : (bor (wlb (S.1 (16 + w)) i.toNat) (pw (lnum (S.1 (16 + w) i)))) = (wlb (S.1 (16 + w)) (i + 1).toNat) := wlb_s (by omega)
          rw [← e_]; exact hl
        exact ih_4 (i + 1) (by omega) (by omega) _ _ I ls (lv_sub hl [2, 1, 0] rfl)
  have hl : lv_has ls 3 [(2, .int (iI 0)), (1, .int (iI (wlb (S.1 (16 + w)) (0 : Int).toNat))), (0, .ref (G.2.2 (6 + 2 * w)))] := by
    have e_ : 0 = (wlb (S.1 (16 + w)) (0 : Int).toNat) := rfl
    rw [← e_]; exact hl
  exact lp_4 (7) 0 (by omega) (by omega) _ _ I ls (lv_sub hl [2, 1, 0] rfl)

theorem ok_X4_isAlike : yX4_isAlike.cls ≠ "java/lang/invoke/MethodHandle" ∧ yX4_isAlike.cls ≠ "java/lang/invoke/VarHandle" ∧ (parseMethodDescriptor yX4_isAlike.desc).map (fun d => d.parameters.length) = some 2 := ⟨by decide +kernel, by decide +kernel, by decide +kernel⟩
abbrev po_X4_isAlike (S : St) (j : Nat) (q : Int) (x : Int) : Int → St → Prop := fun r S1 => r = bI (alk (S.1 (20 + j) q) (S.1 3 (j : Int)) x) ∧ S1 = S
abbrev rm_X4_isAlike : Room := ({ frames := 2, cells := 0, slots := 0, locals := 40 } : Room)
set_option maxRecDepth 100000 in
set_option maxHeartbeats 4000000 in
theorem k_X4_isAlike (l : Launch) (G : Ge) (S : St) (j : Nat) (q : Int) (x : Int) (hj : j < 8) (hq : 0 ≤ q ∧ q < 12) (hx : 0 ≤ x ∧ x ≤ 65535) (hs : 0 ≤ S.1 (20 + j) q ∧ S.1 (20 + j) q ≤ 65535) (hk : 0 ≤ S.1 3 (j : Int) ∧ S.1 3 (j : Int) ≤ 3) : Ki (KC G) l yX4_isAlike cX4_isAlike 4 .boolean rm_X4_isAlike [.ref (G.2.2 (41 + 2 * j)), .int (iI q), .int (iI x)] S (po_X4_isAlike S j q x) := by
  refine K_start (own := "NameSeeker$Name") (by decide +kernel) rfl (Nat.le_of_ble_eq_true rfl) ?_
  intro p e s m args below meth c X hr hlk I ls hl
  have hl : lv_has ls 4 [(0, .ref (G.2.2 (41 + 2 * j))), (1, .int (iI q)), (2, .int (iI x))] := hl
  refine lv_aload_n X.1 X.2.1 dX4_isAlike_0 rfl (lv_at hl 0 rfl) ?_
  refine gC_name_signs X I (j := j) hj tb_87 dX4_isAlike_1 ?_
  refine lv_iload_n X.1 X.2.1 dX4_isAlike_4 rfl (lv_at hl 1 rfl) ?_
  refine aC_signs X I (j := j) (by omega) (v := (S.1 (20 + j) q)) rfl (by omega) dX4_isAlike_5 ?_
  refine lv_istore_n (lv' := [(3, .int (iI (S.1 (20 + j) q))), (0, .ref (G.2.2 (41 + 2 * j))), (1, .int (iI q)), (2, .int (iI x))]) X.1 X.2.1 dX4_isAlike_6 rfl hl (by decide) rfl (fun ls hl => ?_)
  refine lv_iload_n X.1 X.2.1 dX4_isAlike_7 rfl (lv_at hl 0 rfl) ?_
  refine lv_iload_n X.1 X.2.1 dX4_isAlike_8 rfl (lv_at hl 3 rfl) ?_
  refine rj_ne (tgt := 14) X (by omega) (by omega) dX4_isAlike_9 (by decide) (fun c1 => ?_) (fun c1 => ?_)
  · skip
    refine lv_aload_n X.1 X.2.1 dX4_isAlike_14 rfl (lv_at hl 1 rfl) ?_
    refine gC_name_kind X I (j := j) hj (v := (S.1 3 (j : Int))) rfl tb_93 dX4_isAlike_15 ?_
    refine ri_const X (v := 1) dX4_isAlike_18 ?_
    refine rj_eq (tgt := 44) X (by omega) (by omega) dX4_isAlike_19 (by decide) (fun c2 => ?_) (fun c2 => ?_)
    · skip
      refine ri_const X (v := 0) dX4_isAlike_44 ?_
      exact rt_i X hr hlk I (by rfl) (by first | (exfalso; omega) | exact (⟨(bI_f (by unfold alk; omega)).symm, rfl⟩)) dX4_isAlike_45
    · skip
      refine lv_iload_n X.1 X.2.1 dX4_isAlike_22 rfl (lv_at hl 0 rfl) ?_
      refine cl_i I (runSN (As := [.int (iI (S.1 (20 + j) q))]) (rest := []) X (k_X9_isLetter l G S  (S.1 (20 + j) q) (by omega)) (gdC tb_354 gdB) (I.2.2.2.2 _ (List.mem_of_getElem? (i := 0) rfl)) tb_353 tb_34 ⟨ok_X9_isLetter, ⟨Nat.le_of_ble_eq_true rfl, Nat.le_of_ble_eq_true rfl⟩, rfl, rfl⟩ (PreS.of I) rfl hl.1 rfl (Nat.le_of_ble_eq_true rfl) dX4_isAlike_23 ⟨Nat.zero_le _, Nat.zero_le _⟩) (fun r3 S4 H locs q5 I => ?_)
      obtain ⟨e1_, e2_⟩ := q5
      rw [e2_] at I
      rw [e1_]
      clear e1_ e2_
      rcases Decidable.em (((97 ≤ ((S.1 (20 + j) q)) ∧ ((S.1 (20 + j) q)) ≤ 122) ∨ (65 ≤ ((S.1 (20 + j) q)) ∧ ((S.1 (20 + j) q)) ≤ 90))) with b6 | b6
      · rw [bI_t b6]
        refine rz_eq (tgt := 44) X (by omega) dX4_isAlike_26 (by decide) (fun c7 => absurd c7 (by decide)) (fun _ => ?_)
        refine lv_iload_n X.1 X.2.1 dX4_isAlike_29 rfl (lv_at hl 0 rfl) ?_
        refine cl_i I (runSN (As := [.int (iI (S.1 (20 + j) q))]) (rest := []) X (k_X9_letterNumber l G S  (S.1 (20 + j) q) (by omega)) (gdC tb_374 gdB) (I.2.2.2.2 _ (List.mem_of_getElem? (i := 3) rfl)) tb_373 tb_34 ⟨ok_X9_letterNumber, ⟨Nat.le_of_ble_eq_true rfl, Nat.le_of_ble_eq_true rfl⟩, rfl, rfl⟩ (PreS.of I) rfl hl.1 rfl (Nat.le_of_ble_eq_true rfl) dX4_isAlike_30 ⟨Nat.zero_le _, Nat.zero_le _⟩) (fun r8 S9 H locs q10 I => ?_)
        obtain ⟨e1_, e2_⟩ := q10
        rw [e2_] at I
        rw [e1_]
        clear e1_ e2_
        have hn1 := lnum_r (S.1 (20 + j) q) (by omega)
        refine lv_iload_n X.1 X.2.1 dX4_isAlike_33 rfl (lv_at hl 3 rfl) ?_
        refine cl_i I (runSN (As := [.int (iI x)]) (rest := [.int (iI (lnum (S.1 (20 + j) q)))]) X (k_X9_letterNumber l G S  x (by omega)) (gdC tb_374 gdB) (I.2.2.2.2 _ (List.mem_of_getElem? (i := 3) rfl)) tb_373 tb_34 ⟨ok_X9_letterNumber, ⟨Nat.le_of_ble_eq_true rfl, Nat.le_of_ble_eq_true rfl⟩, rfl, rfl⟩ (PreS.of I) rfl hl.1 rfl (Nat.le_of_ble_eq_true rfl) dX4_isAlike_34 ⟨Nat.zero_le _, Nat.zero_le _⟩) (fun r11 S12 H locs q13 I => ?_)
        obtain ⟨e1_, e2_⟩ := q13
        rw [e2_] at I
        rw [e1_]
        clear e1_ e2_
        have hn2 := lnum_r x (by omega)
        refine rj_ne (tgt := 44) X (by omega) (by omega) dX4_isAlike_37 (by decide) (fun c14 => ?_) (fun c14 => ?_)
        · skip
          refine ri_const X (v := 0) dX4_isAlike_44 ?_
          exact rt_i X hr hlk I (by rfl) (by first | (exfalso; omega) | exact (⟨(bI_f (by unfold alk; omega)).symm, rfl⟩)) dX4_isAlike_45
        · skip
          refine ri_const X (v := 1) dX4_isAlike_40 ?_
          refine lv_goto (tgt := 45) X.1 X.2.1 dX4_isAlike_41 (by decide) ?_
          exact rt_i X hr hlk I (by rfl) (by first | (exfalso; omega) | exact (⟨(bI_t (by unfold alk; omega)).symm, rfl⟩)) dX4_isAlike_45
      · rw [bI_f b6]
        refine rz_eq (tgt := 44) X (by omega) dX4_isAlike_26 (by decide) (fun _ => ?_) (fun c15 => absurd c15 (fun q => q (by decide)))
        refine ri_const X (v := 0) dX4_isAlike_44 ?_
        exact rt_i X hr hlk I (by rfl) (by first | (exfalso; omega) | exact (⟨(bI_f (by unfold alk; omega)).symm, rfl⟩)) dX4_isAlike_45
  · skip
    refine ri_const X (v := 1) dX4_isAlike_12 ?_
    exact rt_i X hr hlk I (by rfl) (by first | (exfalso; omega) | exact (⟨(bI_t (by unfold alk; omega)).symm, rfl⟩)) dX4_isAlike_13

theorem ok_X4_hasAll : yX4_hasAll.cls ≠ "java/lang/invoke/MethodHandle" ∧ yX4_hasAll.cls ≠ "java/lang/invoke/VarHandle" ∧ (parseMethodDescriptor yX4_hasAll.desc).map (fun d => d.parameters.length) = some 1 := ⟨by decide +kernel, by decide +kernel, by decide +kernel⟩
abbrev po_X4_hasAll (S : St) (j : Nat) (w : Nat)  : Int → St → Prop := fun r S1 => r = bI (bandn (wlb (S.1 (16 + w)) (S.1 8 (w : Int)).toNat) (S.1 7 (j : Int)) = 0) ∧ S1 = S
abbrev rm_X4_hasAll : Room := ({ frames := 3, cells := 0, slots := 0, locals := 62 } : Room)
set_option maxRecDepth 100000 in
set_option maxHeartbeats 4000000 in
theorem k_X4_hasAll (l : Launch) (G : Ge) (S : St) (j : Nat) (w : Nat)  (hj : j < 8) (hb : 0 ≤ S.1 7 (j : Int) ∧ S.1 7 (j : Int) < 2147483648) (hw : w < 4) (hz : 0 ≤ S.1 8 (w : Int) ∧ S.1 8 (w : Int) ≤ 6) (hL : ∀ i : Int, 0 ≤ i → i < S.1 8 (w : Int) → ((97 ≤ S.1 (16 + w) i ∧ S.1 (16 + w) i ≤ 122) ∨ (65 ≤ S.1 (16 + w) i ∧ S.1 (16 + w) i ≤ 90))) : Ki (KC G) l yX4_hasAll cX4_hasAll 2 .boolean rm_X4_hasAll [.ref (G.2.2 (41 + 2 * j)), .ref (G.2.2 (6 + 2 * w))] S (po_X4_hasAll S j w) := by
  refine K_start (own := "NameSeeker$Name") (by decide +kernel) rfl (Nat.le_of_ble_eq_true rfl) ?_
  intro p e s m args below meth c X hr hlk I ls hl
  have hl : lv_has ls 2 [(0, .ref (G.2.2 (41 + 2 * j))), (1, .ref (G.2.2 (6 + 2 * w)))] := hl
  refine lv_aload_n X.1 X.2.1 dX4_hasAll_0 rfl (lv_at hl 1 rfl) ?_
  refine cl_i I (runV (As := []) (rest := []) X (k_X8_letterBits l G S (w)  hw hz hL) (gdC tb_602 (gdC tb_603 (gdC tb_604 (gdC tb_39 (gdC tb_605 gdB))))) ⟨ok_X8_letterBits, ⟨Nat.le_of_ble_eq_true rfl, Nat.le_of_ble_eq_true rfl⟩, rfl, rfl⟩ (PreV.of (C := RX8) (T := TX8) (N := 2) I (atC_word (w := w) hw) rfl) rfl hl.1 rfl (Nat.le_of_ble_eq_true rfl) dX4_hasAll_1 ⟨Nat.zero_le _, Nat.zero_le _⟩) (fun r1 S2 H locs q3 I => ?_)
  obtain ⟨e1_, e2_⟩ := q3
  rw [e2_] at I
  rw [show _ = (wlb (S.1 (16 + w)) ((S.1 8 (w : Int))).toNat) from e1_]
  have t4 := wlb_r (S.1 (16 + w)) ((S.1 8 (w : Int))).toNat (fun i h1 h2 => hL i h1 (by omega))
  refine lv_aload_n X.1 X.2.1 dX4_hasAll_4 rfl (lv_at hl 0 rfl) ?_
  refine gC_name_letterBits X I (j := j) hj (v := (S.1 7 (j : Int))) rfl tb_104 dX4_hasAll_5 ?_
  refine ri_andnot X (by omega) (by omega) dX4_hasAll_8 dX4_hasAll_9 dX4_hasAll_10 ?_
  have t5 := bandn_r (a := (wlb (S.1 (16 + w)) ((S.1 8 (w : Int))).toNat)) (b := (S.1 7 (j : Int))) (by omega)
  refine rz_ne (tgt := 18) X (by omega) dX4_hasAll_11 (by decide) (fun c6 => ?_) (fun c6 => ?_)
  · skip
    refine ri_const X (v := 0) dX4_hasAll_18 ?_
    exact rt_i X hr hlk I (by rfl) (by first | (exfalso; omega) | exact (⟨(bI_f (by omega)).symm, rfl⟩)) dX4_hasAll_19
  · skip
    refine ri_const X (v := 1) dX4_hasAll_14 ?_
    refine lv_goto (tgt := 19) X.1 X.2.1 dX4_hasAll_15 (by decide) ?_
    exact rt_i X hr hlk I (by rfl) (by first | (exfalso; omega) | exact (⟨(bI_t (by omega)).symm, rfl⟩)) dX4_hasAll_19

theorem ok_X4_reset : yX4_reset.cls ≠ "java/lang/invoke/MethodHandle" ∧ yX4_reset.cls ≠ "java/lang/invoke/VarHandle" ∧ (parseMethodDescriptor yX4_reset.desc).map (fun d => d.parameters.length) = some 2 := ⟨by decide +kernel, by decide +kernel, by decide +kernel⟩
abbrev po_X4_reset (S : St) (j : Nat) (u : Int) (x : Int) : St → Prop := fun S1 => S1 = ((ua (ua (ua (ua (ua (ua S.1 2 (j : Int) 0) 3 (j : Int) u) 4 (j : Int) x) 5 (j : Int) 0) 6 (j : Int) 0) 7 (j : Int) 0), S.2)
abbrev rm_X4_reset : Room := ({ frames := 0, cells := 0, slots := 0, locals := 0 } : Room)
set_option maxRecDepth 100000 in
set_option maxHeartbeats 4000000 in
theorem k_X4_reset (l : Launch) (G : Ge) (S : St) (j : Nat) (u : Int) (x : Int) (hj : j < 8) : Kv (KC G) l yX4_reset cX4_reset 3 rm_X4_reset [.ref (G.2.2 (41 + 2 * j)), .int (iI u), .int (iI x)] S (po_X4_reset S j u x) := by
  refine K_start (own := "NameSeeker$Name") (by decide +kernel) rfl (Nat.le_of_ble_eq_true rfl) ?_
  intro p e s m args below meth c X hr hlk I ls hl
  have hl : lv_has ls 3 [(0, .ref (G.2.2 (41 + 2 * j))), (1, .int (iI u)), (2, .int (iI x))] := hl
  refine lv_aload_n X.1 X.2.1 dX4_reset_0 rfl (lv_at hl 0 rfl) ?_
  refine ri_const X (v := 0) dX4_reset_1 ?_
  refine pC_name_size X I (j := j) hj tb_89 dX4_reset_2 (fun H locs I => ?_)
  have I : In (KC G) s s.heap H locs ((ua S.1 2 (j : Int) 0), S.2) := I
  refine lv_aload_n X.1 X.2.1 dX4_reset_5 rfl (lv_at hl 0 rfl) ?_
  refine lv_iload_n X.1 X.2.1 dX4_reset_6 rfl (lv_at hl 1 rfl) ?_
  refine pC_name_kind X I (j := j) hj tb_93 dX4_reset_7 (fun H locs I => ?_)
  have I : In (KC G) s s.heap H locs ((ua (ua S.1 2 (j : Int) 0) 3 (j : Int) u), S.2) := I
  refine lv_aload_n X.1 X.2.1 dX4_reset_10 rfl (lv_at hl 0 rfl) ?_
  refine lv_iload_n X.1 X.2.1 dX4_reset_11 rfl (lv_at hl 2 rfl) ?_
  refine pC_name_id X I (j := j) hj tb_96 dX4_reset_12 (fun H locs I => ?_)
  have I : In (KC G) s s.heap H locs ((ua (ua (ua S.1 2 (j : Int) 0) 3 (j : Int) u) 4 (j : Int) x), S.2) := I
  refine lv_aload_n X.1 X.2.1 dX4_reset_15 rfl (lv_at hl 0 rfl) ?_
  refine ri_const X (v := 0) dX4_reset_16 ?_
  refine pC_name_picked X I (j := j) hj tb_98 dX4_reset_17 (fun H locs I => ?_)
  have I : In (KC G) s s.heap H locs ((ua (ua (ua (ua S.1 2 (j : Int) 0) 3 (j : Int) u) 4 (j : Int) x) 5 (j : Int) 0), S.2) := I
  refine lv_aload_n X.1 X.2.1 dX4_reset_20 rfl (lv_at hl 0 rfl) ?_
  refine ri_const X (v := 0) dX4_reset_21 ?_
  refine pC_name_beginnings X I (j := j) hj tb_101 dX4_reset_22 (fun H locs I => ?_)
  have I : In (KC G) s s.heap H locs ((ua (ua (ua (ua (ua S.1 2 (j : Int) 0) 3 (j : Int) u) 4 (j : Int) x) 5 (j : Int) 0) 6 (j : Int) 0), S.2) := I
  refine lv_aload_n X.1 X.2.1 dX4_reset_25 rfl (lv_at hl 0 rfl) ?_
  refine ri_const X (v := 0) dX4_reset_26 ?_
  refine pC_name_letterBits X I (j := j) hj tb_104 dX4_reset_27 (fun H locs I => ?_)
  have I : In (KC G) s s.heap H locs ((ua (ua (ua (ua (ua (ua S.1 2 (j : Int) 0) 3 (j : Int) u) 4 (j : Int) x) 5 (j : Int) 0) 6 (j : Int) 0) 7 (j : Int) 0), S.2) := I
  exact rt_v X hr hlk I (by first | (exfalso; omega) | exact (rfl)) dX4_reset_30

theorem ok_X4_wouldBegin : yX4_wouldBegin.cls ≠ "java/lang/invoke/MethodHandle" ∧ yX4_wouldBegin.cls ≠ "java/lang/invoke/VarHandle" ∧ (parseMethodDescriptor yX4_wouldBegin.desc).map (fun d => d.parameters.length) = some 1 := ⟨by decide +kernel, by decide +kernel, by decide +kernel⟩
abbrev po_X4_wouldBegin (S : St) (j : Nat) (x : Int) : Int → St → Prop := fun r S1 => r = bI (((97 ≤ x ∧ x ≤ 122) ∨ (65 ≤ x ∧ x ≤ 90)) ∧ (S.1 2 (j : Int) = 0 ∨ S.1 (20 + j) (S.1 2 (j : Int) - 1) = 95 ∨ ((65 ≤ x ∧ x ≤ 90) ∧ (97 ≤ S.1 (20 + j) (S.1 2 (j : Int) - 1) ∧ S.1 (20 + j) (S.1 2 (j : Int) - 1) ≤ 122)))) ∧ S1 = S
abbrev rm_X4_wouldBegin : Room := ({ frames := 2, cells := 0, slots := 0, locals := 40 } : Room)
set_option maxRecDepth 100000 in
set_option maxHeartbeats 4000000 in
theorem k_X4_wouldBegin (l : Launch) (G : Ge) (S : St) (j : Nat) (x : Int) (hj : j < 8) (hx : 0 ≤ x ∧ x ≤ 126) (hz : 0 ≤ S.1 2 (j : Int) ∧ S.1 2 (j : Int) < 12) (hs : ∀ i : Int, 0 ≤ i → i < S.1 2 (j : Int) → 0 ≤ S.1 (20 + j) i ∧ S.1 (20 + j) i ≤ 126) : Ki (KC G) l yX4_wouldBegin cX4_wouldBegin 3 .boolean rm_X4_wouldBegin [.ref (G.2.2 (41 + 2 * j)), .int (iI x)] S (po_X4_wouldBegin S j x) := by
  refine K_start (own := "NameSeeker$Name") (by decide +kernel) rfl (Nat.le_of_ble_eq_true rfl) ?_
  intro p e s m args below meth c X hr hlk I ls hl
  have hl : lv_has ls 3 [(0, .ref (G.2.2 (41 + 2 * j))), (1, .int (iI x))] := hl
  refine lv_aload_n X.1 X.2.1 dX4_wouldBegin_0 rfl (lv_at hl 0 rfl) ?_
  refine gC_name_size X I (j := j) hj (v := (S.1 2 (j : Int))) rfl tb_89 dX4_wouldBegin_1 ?_
  refine rz_eq (tgt := 14) X (by omega) dX4_wouldBegin_4 (by decide) (fun c1 => ?_) (fun c1 => ?_)
  · skip
    refine lv_iload_n X.1 X.2.1 dX4_wouldBegin_14 rfl (lv_at hl 1 rfl) ?_
    refine cl_i I (runSN (As := [.int (iI x)]) (rest := []) X (k_X9_isLetter l G S  x (by omega)) (gdC tb_354 gdB) (I.2.2.2.2 _ (List.mem_of_getElem? (i := 0) rfl)) tb_353 tb_34 ⟨ok_X9_isLetter, ⟨Nat.le_of_ble_eq_true rfl, Nat.le_of_ble_eq_true rfl⟩, rfl, rfl⟩ (PreS.of I) rfl hl.1 rfl (Nat.le_of_ble_eq_true rfl) dX4_wouldBegin_15 ⟨Nat.zero_le _, Nat.zero_le _⟩) (fun r2 S3 H locs q4 I => ?_)
    obtain ⟨e1_, e2_⟩ := q4
    rw [e2_] at I
    rw [e1_]
    clear e1_ e2_
    rcases Decidable.em (((97 ≤ (x) ∧ (x) ≤ 122) ∨ (65 ≤ (x) ∧ (x) ≤ 90))) with b5 | b5
    · rw [bI_t b5]
      exact rt_i X hr hlk I (by rfl) (by first | (exfalso; omega) | exact (⟨(bI_t (by omega)).symm, rfl⟩)) dX4_wouldBegin_18
    · rw [bI_f b5]
      exact rt_i X hr hlk I (by rfl) (by first | (exfalso; omega) | exact (⟨(bI_f (by omega)).symm, rfl⟩)) dX4_wouldBegin_18
  · skip
    refine lv_iload_n X.1 X.2.1 dX4_wouldBegin_7 rfl (lv_at hl 1 rfl) ?_
    refine cl_i I (runSN (As := [.int (iI x)]) (rest := []) X (k_X9_isLetter l G S  x (by omega)) (gdC tb_354 gdB) (I.2.2.2.2 _ (List.mem_of_getElem? (i := 0) rfl)) tb_353 tb_34 ⟨ok_X9_isLetter, ⟨Nat.le_of_ble_eq_true rfl, Nat.le_of_ble_eq_true rfl⟩, rfl, rfl⟩ (PreS.of I) rfl hl.1 rfl (Nat.le_of_ble_eq_true rfl) dX4_wouldBegin_8 ⟨Nat.zero_le _, Nat.zero_le _⟩) (fun r6 S7 H locs q8 I => ?_)
    obtain ⟨e1_, e2_⟩ := q8
    rw [e2_] at I
    rw [e1_]
    clear e1_ e2_
    rcases Decidable.em (((97 ≤ (x) ∧ (x) ≤ 122) ∨ (65 ≤ (x) ∧ (x) ≤ 90))) with b9 | b9
    · rw [bI_t b9]
      refine rz_ne (tgt := 19) X (by omega) dX4_wouldBegin_11 (by decide) (fun _ => ?_) (fun c10 => absurd c10 (by decide))
      have hsi := hs (S.1 2 (j : Int) - 1) (by omega) (by omega)
      refine lv_aload_n X.1 X.2.1 dX4_wouldBegin_19 rfl (lv_at hl 0 rfl) ?_
      refine gC_name_signs X I (j := j) hj tb_87 dX4_wouldBegin_20 ?_
      refine lv_aload_n X.1 X.2.1 dX4_wouldBegin_23 rfl (lv_at hl 0 rfl) ?_
      refine gC_name_size X I (j := j) hj (v := (S.1 2 (j : Int))) rfl tb_89 dX4_wouldBegin_24 ?_
      refine ri_const X (v := 1) dX4_wouldBegin_27 ?_
      refine ri_sub X (v := ((S.1 2 (j : Int)) - 1)) rfl dX4_wouldBegin_28 ?_
      refine aC_signs X I (j := j) (by omega) (v := (S.1 (20 + j) ((S.1 2 (j : Int)) - 1))) rfl (by omega) dX4_wouldBegin_29 ?_
      refine lv_istore_n (lv' := [(2, .int (iI (S.1 (20 + j) ((S.1 2 (j : Int)) - 1)))), (0, .ref (G.2.2 (41 + 2 * j))), (1, .int (iI x))]) X.1 X.2.1 dX4_wouldBegin_30 rfl hl (by decide) rfl (fun ls hl => ?_)
      refine lv_iload_n X.1 X.2.1 dX4_wouldBegin_31 rfl (lv_at hl 0 rfl) ?_
      refine ri_push X (v := 95) (by decide) dX4_wouldBegin_32 ?_
      refine rj_eq (tgt := 51) X (by omega) (by omega) dX4_wouldBegin_34 (by decide) (fun c11 => ?_) (fun c11 => ?_)
      · skip
        refine ri_const X (v := 1) dX4_wouldBegin_51 ?_
        refine lv_goto (tgt := 56) X.1 X.2.1 dX4_wouldBegin_52 (by decide) ?_
        exact rt_i X hr hlk I (by rfl) (by first | (exfalso; omega) | exact (⟨(bI_t (by omega)).symm, rfl⟩)) dX4_wouldBegin_56
      · skip
        refine lv_iload_n X.1 X.2.1 dX4_wouldBegin_37 rfl (lv_at hl 2 rfl) ?_
        refine cl_i I (runSN (As := [.int (iI x)]) (rest := []) X (k_X9_isGreat l G S  x (by omega)) (gdC tb_360 gdB) (I.2.2.2.2 _ (List.mem_of_getElem? (i := 1) rfl)) tb_359 tb_34 ⟨ok_X9_isGreat, ⟨Nat.le_of_ble_eq_true rfl, Nat.le_of_ble_eq_true rfl⟩, rfl, rfl⟩ (PreS.of I) rfl hl.1 rfl (Nat.le_of_ble_eq_true rfl) dX4_wouldBegin_38 ⟨Nat.zero_le _, Nat.zero_le _⟩) (fun r12 S13 H locs q14 I => ?_)
        obtain ⟨e1_, e2_⟩ := q14
        rw [e2_] at I
        rw [e1_]
        clear e1_ e2_
        rcases Decidable.em ((65 ≤ (x) ∧ (x) ≤ 90)) with b15 | b15
        · rw [bI_t b15]
          refine rz_eq (tgt := 55) X (by omega) dX4_wouldBegin_41 (by decide) (fun c16 => absurd c16 (by decide)) (fun _ => ?_)
          refine lv_iload_n X.1 X.2.1 dX4_wouldBegin_44 rfl (lv_at hl 0 rfl) ?_
          refine cl_i I (runSN (As := [.int (iI (S.1 (20 + j) ((S.1 2 (j : Int)) - 1)))]) (rest := []) X (k_X9_isSmall l G S  (S.1 (20 + j) ((S.1 2 (j : Int)) - 1)) (by omega)) (gdC tb_357 gdB) (I.2.2.2.2 _ (List.mem_of_getElem? (i := 2) rfl)) tb_356 tb_34 ⟨ok_X9_isSmall, ⟨Nat.le_of_ble_eq_true rfl, Nat.le_of_ble_eq_true rfl⟩, rfl, rfl⟩ (PreS.of I) rfl hl.1 rfl (Nat.le_of_ble_eq_true rfl) dX4_wouldBegin_45 ⟨Nat.zero_le _, Nat.zero_le _⟩) (fun r17 S18 H locs q19 I => ?_)
          obtain ⟨e1_, e2_⟩ := q19
          rw [e2_] at I
          rw [e1_]
          clear e1_ e2_
          rcases Decidable.em ((97 ≤ ((S.1 (20 + j) ((S.1 2 (j : Int)) - 1))) ∧ ((S.1 (20 + j) ((S.1 2 (j : Int)) - 1))) ≤ 122)) with b20 | b20
          · rw [bI_t b20]
            refine rz_eq (tgt := 55) X (by omega) dX4_wouldBegin_48 (by decide) (fun c21 => absurd c21 (by decide)) (fun _ => ?_)
            refine ri_const X (v := 1) dX4_wouldBegin_51 ?_
            refine lv_goto (tgt := 56) X.1 X.2.1 dX4_wouldBegin_52 (by decide) ?_
            exact rt_i X hr hlk I (by rfl) (by first | (exfalso; omega) | exact (⟨(bI_t (by omega)).symm, rfl⟩)) dX4_wouldBegin_56
          · rw [bI_f b20]
            refine rz_eq (tgt := 55) X (by omega) dX4_wouldBegin_48 (by decide) (fun _ => ?_) (fun c22 => absurd c22 (fun q => q (by decide)))
            refine ri_const X (v := 0) dX4_wouldBegin_55 ?_
            exact rt_i X hr hlk I (by rfl) (by first | (exfalso; omega) | exact (⟨(bI_f (by omega)).symm, rfl⟩)) dX4_wouldBegin_56
        · rw [bI_f b15]
          refine rz_eq (tgt := 55) X (by omega) dX4_wouldBegin_41 (by decide) (fun _ => ?_) (fun c23 => absurd c23 (fun q => q (by decide)))
          refine ri_const X (v := 0) dX4_wouldBegin_55 ?_
          exact rt_i X hr hlk I (by rfl) (by first | (exfalso; omega) | exact (⟨(bI_f (by omega)).symm, rfl⟩)) dX4_wouldBegin_56
    · rw [bI_f b9]
      refine rz_ne (tgt := 19) X (by omega) dX4_wouldBegin_11 (by decide) (fun c24 => absurd c24 (by decide)) (fun _ => ?_)
      refine lv_iload_n X.1 X.2.1 dX4_wouldBegin_14 rfl (lv_at hl 1 rfl) ?_
      refine cl_i I (runSN (As := [.int (iI x)]) (rest := []) X (k_X9_isLetter l G S  x (by omega)) (gdC tb_354 gdB) (I.2.2.2.2 _ (List.mem_of_getElem? (i := 0) rfl)) tb_353 tb_34 ⟨ok_X9_isLetter, ⟨Nat.le_of_ble_eq_true rfl, Nat.le_of_ble_eq_true rfl⟩, rfl, rfl⟩ (PreS.of I) rfl hl.1 rfl (Nat.le_of_ble_eq_true rfl) dX4_wouldBegin_15 ⟨Nat.zero_le _, Nat.zero_le _⟩) (fun r25 S26 H locs q27 I => ?_)
      obtain ⟨e1_, e2_⟩ := q27
      rw [e2_] at I
      rw [e1_]
      clear e1_ e2_
      rcases Decidable.em (((97 ≤ (x) ∧ (x) ≤ 122) ∨ (65 ≤ (x) ∧ (x) ≤ 90))) with b28 | b28
      · rw [bI_t b28]
        exact rt_i X hr hlk I (by rfl) (by first | (exfalso; omega) | exact (⟨(bI_t (by omega)).symm, rfl⟩)) dX4_wouldBegin_18
      · rw [bI_f b28]
        exact rt_i X hr hlk I (by rfl) (by first | (exfalso; omega) | exact (⟨(bI_f (by omega)).symm, rfl⟩)) dX4_wouldBegin_18

theorem ok_X4_addSign : yX4_addSign.cls ≠ "java/lang/invoke/MethodHandle" ∧ yX4_addSign.cls ≠ "java/lang/invoke/VarHandle" ∧ (parseMethodDescriptor yX4_addSign.desc).map (fun d => d.parameters.length) = some 1 := ⟨by decide +kernel, by decide +kernel, by decide +kernel⟩
abbrev po_X4_addSign (S : St) (j : Nat) (x : Int) : St → Prop := fun S1 => S1 = ((ua (ua (ua (ua S.1 6 (j : Int) (if (((97 ≤ x ∧ x ≤ 122) ∨ (65 ≤ x ∧ x ≤ 90)) ∧ (S.1 2 (j : Int) = 0 ∨ S.1 (20 + j) (S.1 2 (j : Int) - 1) = 95 ∨ ((65 ≤ x ∧ x ≤ 90) ∧ (97 ≤ S.1 (20 + j) (S.1 2 (j : Int) - 1) ∧ S.1 (20 + j) (S.1 2 (j : Int) - 1) ≤ 122)))) then bor (S.1 6 (j : Int)) (pw (S.1 2 (j : Int))) else S.1 6 (j : Int))) 7 (j : Int) (if ((97 ≤ x ∧ x ≤ 122) ∨ (65 ≤ x ∧ x ≤ 90)) then bor (S.1 7 (j : Int)) (pw (lnum x)) else S.1 7 (j : Int))) (20 + j) (S.1 2 (j : Int)) x) 2 (j : Int) (S.1 2 (j : Int) + 1)), S.2)
abbrev rm_X4_addSign : Room := ({ frames := 3, cells := 0, slots := 0, locals := 62 } : Room)
set_option maxRecDepth 100000 in
set_option maxHeartbeats 4000000 in
theorem k_X4_addSign (l : Launch) (G : Ge) (S : St) (j : Nat) (x : Int) (hj : j < 8) (hx : 0 ≤ x ∧ x ≤ 126) (hz : 0 ≤ S.1 2 (j : Int) ∧ S.1 2 (j : Int) < 12) (hs : ∀ i : Int, 0 ≤ i → i < S.1 2 (j : Int) → 0 ≤ S.1 (20 + j) i ∧ S.1 (20 + j) i ≤ 126) (hb6 : 0 ≤ S.1 6 (j : Int) ∧ S.1 6 (j : Int) < 2147483648) (hb7 : 0 ≤ S.1 7 (j : Int) ∧ S.1 7 (j : Int) < 2147483648) : Kv (KC G) l yX4_addSign cX4_addSign 2 rm_X4_addSign [.ref (G.2.2 (41 + 2 * j)), .int (iI x)] S (po_X4_addSign S j x) := by
  refine K_start (own := "NameSeeker$Name") (by decide +kernel) rfl (Nat.le_of_ble_eq_true rfl) ?_
  intro p e s m args below meth c X hr hlk I ls hl
  have hl : lv_has ls 2 [(0, .ref (G.2.2 (41 + 2 * j))), (1, .int (iI x))] := hl
  refine lv_aload_n X.1 X.2.1 dX4_addSign_0 rfl (lv_at hl 0 rfl) ?_
  refine gC_name_size X I (j := j) hj (v := (S.1 2 (j : Int))) rfl tb_89 dX4_addSign_1 ?_
  refine ri_push X (v := 12) (by decide) dX4_addSign_4 ?_
  refine rj_lt (tgt := 10) X (by omega) (by omega) dX4_addSign_6 (by decide) (fun _ => ?_) (fun c1 => absurd c1 (by omega))
  refine lv_aload_n X.1 X.2.1 dX4_addSign_10 rfl (lv_at hl 0 rfl) ?_
  refine lv_iload_n X.1 X.2.1 dX4_addSign_11 rfl (lv_at hl 1 rfl) ?_
  refine cl_i I (runV (As := [.int (iI x)]) (rest := []) X (k_X4_wouldBegin l G S (j) x hj hx hz hs) (gdC tb_365 (gdC tb_367 (gdC tb_2 (gdC tb_37 (gdC tb_368 gdB))))) ⟨ok_X4_wouldBegin, ⟨Nat.le_of_ble_eq_true rfl, Nat.le_of_ble_eq_true rfl⟩, rfl, rfl⟩ (PreV.of (C := RX4) (T := TX4) (N := 7) I (atC_name (j := j) hj) rfl) rfl hl.1 rfl (Nat.le_of_ble_eq_true rfl) dX4_addSign_12 ⟨Nat.zero_le _, Nat.zero_le _⟩) (fun r2 S3 H locs q4 I => ?_)
  obtain ⟨e1_, e2_⟩ := q4
  rw [e2_] at I
  rw [e1_]
  clear e1_ e2_
  rcases Decidable.em (((97 ≤ x ∧ x ≤ 122) ∨ (65 ≤ x ∧ x ≤ 90)) ∧ (S.1 2 (j : Int) = 0 ∨ S.1 (20 + j) (S.1 2 (j : Int) - 1) = 95 ∨ ((65 ≤ x ∧ x ≤ 90) ∧ (97 ≤ S.1 (20 + j) (S.1 2 (j : Int) - 1) ∧ S.1 (20 + j) (S.1 2 (j : Int) - 1) ≤ 122)))) with b5 | b5
  · rw [bI_t b5]
    refine rz_eq (tgt := 33) X (by omega) dX4_addSign_15 (by decide) (fun c6 => absurd c6 (by decide)) (fun _ => ?_)
    refine lv_aload_n X.1 X.2.1 dX4_addSign_18 rfl (lv_at hl 0 rfl) ?_
    refine lv_dup X.1 X.2.1 dX4_addSign_19 rfl ?_
    refine gC_name_beginnings X I (j := j) hj (v := (S.1 6 (j : Int))) rfl tb_101 dX4_addSign_20 ?_
    refine ri_const X (v := 1) dX4_addSign_23 ?_
    refine lv_aload_n X.1 X.2.1 dX4_addSign_24 rfl (lv_at hl 0 rfl) ?_
    refine gC_name_size X I (j := j) hj (v := (S.1 2 (j : Int))) rfl tb_89 dX4_addSign_25 ?_
    refine ri_shl X (by omega) dX4_addSign_28 ?_
    have t7 := pw_r (k := (S.1 2 (j : Int))) (by omega)
    refine ri_or X (by omega) (by omega) dX4_addSign_29 ?_
    have t8 := bor_r (a := (S.1 6 (j : Int))) (b := (pw (S.1 2 (j : Int)))) (by omega) (by omega)
    refine pC_name_beginnings X I (j := j) hj tb_101 dX4_addSign_30 (fun H locs I => ?_)
    have I : In (KC G) s s.heap H locs ((ua S.1 6 (j : Int) (bor (S.1 6 (j : Int)) (pw (S.1 2 (j : Int))))), S.2) := I
    refine lv_iload_n X.1 X.2.1 dX4_addSign_33 rfl (lv_at hl 1 rfl) ?_
    refine cl_i I (runSN (As := [.int (iI x)]) (rest := []) X (k_X9_isLetter l G ((ua S.1 6 (j : Int) (bor (S.1 6 (j : Int)) (pw (S.1 2 (j : Int))))), S.2)  x (by omega)) (gdC tb_354 gdB) (I.2.2.2.2 _ (List.mem_of_getElem? (i := 0) rfl)) tb_353 tb_34 ⟨ok_X9_isLetter, ⟨Nat.le_of_ble_eq_true rfl, Nat.le_of_ble_eq_true rfl⟩, rfl, rfl⟩ (PreS.of I) rfl hl.1 rfl (Nat.le_of_ble_eq_true rfl) dX4_addSign_34 ⟨Nat.zero_le _, Nat.zero_le _⟩) (fun r9 S10 H locs q11 I => ?_)
    obtain ⟨e1_, e2_⟩ := q11
    rw [e2_] at I
    rw [e1_]
    clear e1_ e2_
    rcases Decidable.em (((97 ≤ (x) ∧ (x) ≤ 122) ∨ (65 ≤ (x) ∧ (x) ≤ 90))) with b12 | b12
    · rw [bI_t b12]
      refine rz_eq (tgt := 55) X (by omega) dX4_addSign_37 (by decide) (fun c13 => absurd c13 (by decide)) (fun _ => ?_)
      refine lv_aload_n X.1 X.2.1 dX4_addSign_40 rfl (lv_at hl 0 rfl) ?_
      refine lv_dup X.1 X.2.1 dX4_addSign_41 rfl ?_
      refine gC_name_letterBits X I (j := j) hj (v := (S.1 7 (j : Int))) (by first | rfl | (dsimp only; repeat' (first | rw [us_eq] | rw [ua_eq] | rw [us_nc (by omega)] | rw [ua_nc (by omega)] | rw [ua_ni (by omega)]))) tb_104 dX4_addSign_42 ?_
      refine ri_const X (v := 1) dX4_addSign_45 ?_
      refine lv_iload_n X.1 X.2.1 dX4_addSign_46 rfl (lv_at hl 1 rfl) ?_
      refine cl_i I (runSN (As := [.int (iI x)]) (rest := [.int (iI 1), .int (iI (S.1 7 (j : Int))), .ref (G.2.2 (41 + 2 * j))]) X (k_X9_letterNumber l G ((ua S.1 6 (j : Int) (bor (S.1 6 (j : Int)) (pw (S.1 2 (j : Int))))), S.2)  x (by omega)) (gdC tb_374 gdB) (I.2.2.2.2 _ (List.mem_of_getElem? (i := 3) rfl)) tb_373 tb_34 ⟨ok_X9_letterNumber, ⟨Nat.le_of_ble_eq_true rfl, Nat.le_of_ble_eq_true rfl⟩, rfl, rfl⟩ (PreS.of I) rfl hl.1 rfl (Nat.le_of_ble_eq_true rfl) dX4_addSign_47 ⟨Nat.zero_le _, Nat.zero_le _⟩) (fun r14 S15 H locs q16 I => ?_)
      obtain ⟨e1_, e2_⟩ := q16
      rw [e2_] at I
      rw [e1_]
      clear e1_ e2_
      have hnr := lnum_r x (by omega)
      have hn2 := lnum_l x (by assumption)
      refine ri_shl X (by omega) dX4_addSign_50 ?_
      have t17 := pw_r (k := (lnum x)) (by omega)
      refine ri_or X (by omega) (by omega) dX4_addSign_51 ?_
      have t18 := bor_r (a := (S.1 7 (j : Int))) (b := (pw (lnum x))) (by omega) (by omega)
      refine pC_name_letterBits X I (j := j) hj tb_104 dX4_addSign_52 (fun H locs I => ?_)
      have I : In (KC G) s s.heap H locs ((ua (ua S.1 6 (j : Int) (bor (S.1 6 (j : Int)) (pw (S.1 2 (j : Int))))) 7 (j : Int) (bor (S.1 7 (j : Int)) (pw (lnum x)))), S.2) := I
      refine lv_aload_n X.1 X.2.1 dX4_addSign_55 rfl (lv_at hl 0 rfl) ?_
      refine gC_name_signs X I (j := j) hj tb_87 dX4_addSign_56 ?_
      refine lv_aload_n X.1 X.2.1 dX4_addSign_59 rfl (lv_at hl 0 rfl) ?_
      refine gC_name_size X I (j := j) hj (v := (S.1 2 (j : Int))) (by first | rfl | (dsimp only; repeat' (first | rw [us_eq] | rw [ua_eq] | rw [us_nc (by omega)] | rw [ua_nc (by omega)] | rw [ua_ni (by omega)]))) tb_89 dX4_addSign_60 ?_
      refine lv_iload_n X.1 X.2.1 dX4_addSign_63 rfl (lv_at hl 1 rfl) ?_
      refine qC_signs X I (j := j) (by omega) (by omega) (by omega) dX4_addSign_64 (fun H locs I => ?_)
      have I : In (KC G) s s.heap H locs ((ua (ua (ua S.1 6 (j : Int) (bor (S.1 6 (j : Int)) (pw (S.1 2 (j : Int))))) 7 (j : Int) (bor (S.1 7 (j : Int)) (pw (lnum x)))) (20 + j) (S.1 2 (j : Int)) x), S.2) := I
      refine lv_aload_n X.1 X.2.1 dX4_addSign_65 rfl (lv_at hl 0 rfl) ?_
      refine lv_dup X.1 X.2.1 dX4_addSign_66 rfl ?_
      refine gC_name_size X I (j := j) hj (v := (S.1 2 (j : Int))) (by first | rfl | (dsimp only; repeat' (first | rw [us_eq] | rw [ua_eq] | rw [us_nc (by omega)] | rw [ua_nc (by omega)] | rw [ua_ni (by omega)]))) tb_89 dX4_addSign_67 ?_
      refine ri_const X (v := 1) dX4_addSign_70 ?_
      refine ri_add X (v := ((S.1 2 (j : Int)) + 1)) rfl dX4_addSign_71 ?_
      refine pC_name_size X I (j := j) hj tb_89 dX4_addSign_72 (fun H locs I => ?_)
      have I : In (KC G) s s.heap H locs ((ua (ua (ua (ua S.1 6 (j : Int) (bor (S.1 6 (j : Int)) (pw (S.1 2 (j : Int))))) 7 (j : Int) (bor (S.1 7 (j : Int)) (pw (lnum x)))) (20 + j) (S.1 2 (j : Int)) x) 2 (j : Int) ((S.1 2 (j : Int)) + 1)), S.2) := I
      exact rt_v X hr hlk I (by first | (exfalso; omega) | exact (by show (_ : St) = _; first | rw [if_pos (by assumption), if_pos (by assumption)] | rw [if_pos (by assumption), if_neg (by assumption), ua_s7 (by decide)] | rw [if_neg (by assumption), ua_self, if_pos (by assumption)] | rw [if_neg (by assumption), ua_self, if_neg (by assumption), ua_self])) dX4_addSign_75
    · rw [bI_f b12]
      refine rz_eq (tgt := 55) X (by omega) dX4_addSign_37 (by decide) (fun _ => ?_) (fun c19 => absurd c19 (fun q => q (by decide)))
      refine lv_aload_n X.1 X.2.1 dX4_addSign_55 rfl (lv_at hl 0 rfl) ?_
      refine gC_name_signs X I (j := j) hj tb_87 dX4_addSign_56 ?_
      refine lv_aload_n X.1 X.2.1 dX4_addSign_59 rfl (lv_at hl 0 rfl) ?_
      refine gC_name_size X I (j := j) hj (v := (S.1 2 (j : Int))) (by first | rfl | (dsimp only; repeat' (first | rw [us_eq] | rw [ua_eq] | rw [us_nc (by omega)] | rw [ua_nc (by omega)] | rw [ua_ni (by omega)]))) tb_89 dX4_addSign_60 ?_
      refine lv_iload_n X.1 X.2.1 dX4_addSign_63 rfl (lv_at hl 1 rfl) ?_
      refine qC_signs X I (j := j) (by omega) (by omega) (by omega) dX4_addSign_64 (fun H locs I => ?_)
      have I : In (KC G) s s.heap H locs ((ua (ua S.1 6 (j : Int) (bor (S.1 6 (j : Int)) (pw (S.1 2 (j : Int))))) (20 + j) (S.1 2 (j : Int)) x), S.2) := I
      refine lv_aload_n X.1 X.2.1 dX4_addSign_65 rfl (lv_at hl 0 rfl) ?_
      refine lv_dup X.1 X.2.1 dX4_addSign_66 rfl ?_
      refine gC_name_size X I (j := j) hj (v := (S.1 2 (j : Int))) (by first | rfl | (dsimp only; repeat' (first | rw [us_eq] | rw [ua_eq] | rw [us_nc (by omega)] | rw [ua_nc (by omega)] | rw [ua_ni (by omega)]))) tb_89 dX4_addSign_67 ?_
      refine ri_const X (v := 1) dX4_addSign_70 ?_
      refine ri_add X (v := ((S.1 2 (j : Int)) + 1)) rfl dX4_addSign_71 ?_
      refine pC_name_size X I (j := j) hj tb_89 dX4_addSign_72 (fun H locs I => ?_)
      have I : In (KC G) s s.heap H locs ((ua (ua (ua S.1 6 (j : Int) (bor (S.1 6 (j : Int)) (pw (S.1 2 (j : Int))))) (20 + j) (S.1 2 (j : Int)) x) 2 (j : Int) ((S.1 2 (j : Int)) + 1)), S.2) := I
      exact rt_v X hr hlk I (by first | (exfalso; omega) | exact (by show (_ : St) = _; first | rw [if_pos (by assumption), if_pos (by assumption)] | rw [if_pos (by assumption), if_neg (by assumption), ua_s7 (by decide)] | rw [if_neg (by assumption), ua_self, if_pos (by assumption)] | rw [if_neg (by assumption), ua_self, if_neg (by assumption), ua_self])) dX4_addSign_75
  · rw [bI_f b5]
    refine rz_eq (tgt := 33) X (by omega) dX4_addSign_15 (by decide) (fun _ => ?_) (fun c20 => absurd c20 (fun q => q (by decide)))
    refine lv_iload_n X.1 X.2.1 dX4_addSign_33 rfl (lv_at hl 1 rfl) ?_
    refine cl_i I (runSN (As := [.int (iI x)]) (rest := []) X (k_X9_isLetter l G S  x (by omega)) (gdC tb_354 gdB) (I.2.2.2.2 _ (List.mem_of_getElem? (i := 0) rfl)) tb_353 tb_34 ⟨ok_X9_isLetter, ⟨Nat.le_of_ble_eq_true rfl, Nat.le_of_ble_eq_true rfl⟩, rfl, rfl⟩ (PreS.of I) rfl hl.1 rfl (Nat.le_of_ble_eq_true rfl) dX4_addSign_34 ⟨Nat.zero_le _, Nat.zero_le _⟩) (fun r21 S22 H locs q23 I => ?_)
    obtain ⟨e1_, e2_⟩ := q23
    rw [e2_] at I
    rw [e1_]
    clear e1_ e2_
    rcases Decidable.em (((97 ≤ (x) ∧ (x) ≤ 122) ∨ (65 ≤ (x) ∧ (x) ≤ 90))) with b24 | b24
    · rw [bI_t b24]
      refine rz_eq (tgt := 55) X (by omega) dX4_addSign_37 (by decide) (fun c25 => absurd c25 (by decide)) (fun _ => ?_)
      refine lv_aload_n X.1 X.2.1 dX4_addSign_40 rfl (lv_at hl 0 rfl) ?_
      refine lv_dup X.1 X.2.1 dX4_addSign_41 rfl ?_
      refine gC_name_letterBits X I (j := j) hj (v := (S.1 7 (j : Int))) rfl tb_104 dX4_addSign_42 ?_
      refine ri_const X (v := 1) dX4_addSign_45 ?_
      refine lv_iload_n X.1 X.2.1 dX4_addSign_46 rfl (lv_at hl 1 rfl) ?_
      refine cl_i I (runSN (As := [.int (iI x)]) (rest := [.int (iI 1), .int (iI (S.1 7 (j : Int))), .ref (G.2.2 (41 + 2 * j))]) X (k_X9_letterNumber l G S  x (by omega)) (gdC tb_374 gdB) (I.2.2.2.2 _ (List.mem_of_getElem? (i := 3) rfl)) tb_373 tb_34 ⟨ok_X9_letterNumber, ⟨Nat.le_of_ble_eq_true rfl, Nat.le_of_ble_eq_true rfl⟩, rfl, rfl⟩ (PreS.of I) rfl hl.1 rfl (Nat.le_of_ble_eq_true rfl) dX4_addSign_47 ⟨Nat.zero_le _, Nat.zero_le _⟩) (fun r26 S27 H locs q28 I => ?_)
      obtain ⟨e1_, e2_⟩ := q28
      rw [e2_] at I
      rw [e1_]
      clear e1_ e2_
      have hnr := lnum_r x (by omega)
      have hn2 := lnum_l x (by assumption)
      refine ri_shl X (by omega) dX4_addSign_50 ?_
      have t29 := pw_r (k := (lnum x)) (by omega)
      refine ri_or X (by omega) (by omega) dX4_addSign_51 ?_
      have t30 := bor_r (a := (S.1 7 (j : Int))) (b := (pw (lnum x))) (by omega) (by omega)
      refine pC_name_letterBits X I (j := j) hj tb_104 dX4_addSign_52 (fun H locs I => ?_)
      have I : In (KC G) s s.heap H locs ((ua S.1 7 (j : Int) (bor (S.1 7 (j : Int)) (pw (lnum x)))), S.2) := I
      refine lv_aload_n X.1 X.2.1 dX4_addSign_55 rfl (lv_at hl 0 rfl) ?_
      refine gC_name_signs X I (j := j) hj tb_87 dX4_addSign_56 ?_
      refine lv_aload_n X.1 X.2.1 dX4_addSign_59 rfl (lv_at hl 0 rfl) ?_
      refine gC_name_size X I (j := j) hj (v := (S.1 2 (j : Int))) (by first | rfl | (dsimp only; repeat' (first | rw [us_eq] | rw [ua_eq] | rw [us_nc (by omega)] | rw [ua_nc (by omega)] | rw [ua_ni (by omega)]))) tb_89 dX4_addSign_60 ?_
      refine lv_iload_n X.1 X.2.1 dX4_addSign_63 rfl (lv_at hl 1 rfl) ?_
      refine qC_signs X I (j := j) (by omega) (by omega) (by omega) dX4_addSign_64 (fun H locs I => ?_)
      have I : In (KC G) s s.heap H locs ((ua (ua S.1 7 (j : Int) (bor (S.1 7 (j : Int)) (pw (lnum x)))) (20 + j) (S.1 2 (j : Int)) x), S.2) := I
      refine lv_aload_n X.1 X.2.1 dX4_addSign_65 rfl (lv_at hl 0 rfl) ?_
      refine lv_dup X.1 X.2.1 dX4_addSign_66 rfl ?_
      refine gC_name_size X I (j := j) hj (v := (S.1 2 (j : Int))) (by first | rfl | (dsimp only; repeat' (first | rw [us_eq] | rw [ua_eq] | rw [us_nc (by omega)] | rw [ua_nc (by omega)] | rw [ua_ni (by omega)]))) tb_89 dX4_addSign_67 ?_
      refine ri_const X (v := 1) dX4_addSign_70 ?_
      refine ri_add X (v := ((S.1 2 (j : Int)) + 1)) rfl dX4_addSign_71 ?_
      refine pC_name_size X I (j := j) hj tb_89 dX4_addSign_72 (fun H locs I => ?_)
      have I : In (KC G) s s.heap H locs ((ua (ua (ua S.1 7 (j : Int) (bor (S.1 7 (j : Int)) (pw (lnum x)))) (20 + j) (S.1 2 (j : Int)) x) 2 (j : Int) ((S.1 2 (j : Int)) + 1)), S.2) := I
      exact rt_v X hr hlk I (by first | (exfalso; omega) | exact (by show (_ : St) = _; first | rw [if_pos (by assumption), if_pos (by assumption)] | rw [if_pos (by assumption), if_neg (by assumption), ua_s7 (by decide)] | rw [if_neg (by assumption), ua_self, if_pos (by assumption)] | rw [if_neg (by assumption), ua_self, if_neg (by assumption), ua_self])) dX4_addSign_75
    · rw [bI_f b24]
      refine rz_eq (tgt := 55) X (by omega) dX4_addSign_37 (by decide) (fun _ => ?_) (fun c31 => absurd c31 (fun q => q (by decide)))
      refine lv_aload_n X.1 X.2.1 dX4_addSign_55 rfl (lv_at hl 0 rfl) ?_
      refine gC_name_signs X I (j := j) hj tb_87 dX4_addSign_56 ?_
      refine lv_aload_n X.1 X.2.1 dX4_addSign_59 rfl (lv_at hl 0 rfl) ?_
      refine gC_name_size X I (j := j) hj (v := (S.1 2 (j : Int))) rfl tb_89 dX4_addSign_60 ?_
      refine lv_iload_n X.1 X.2.1 dX4_addSign_63 rfl (lv_at hl 1 rfl) ?_
      refine qC_signs X I (j := j) (by omega) (by omega) (by omega) dX4_addSign_64 (fun H locs I => ?_)
      have I : In (KC G) s s.heap H locs ((ua S.1 (20 + j) (S.1 2 (j : Int)) x), S.2) := I
      refine lv_aload_n X.1 X.2.1 dX4_addSign_65 rfl (lv_at hl 0 rfl) ?_
      refine lv_dup X.1 X.2.1 dX4_addSign_66 rfl ?_
      refine gC_name_size X I (j := j) hj (v := (S.1 2 (j : Int))) (by first | rfl | (dsimp only; repeat' (first | rw [us_eq] | rw [ua_eq] | rw [us_nc (by omega)] | rw [ua_nc (by omega)] | rw [ua_ni (by omega)]))) tb_89 dX4_addSign_67 ?_
      refine ri_const X (v := 1) dX4_addSign_70 ?_
      refine ri_add X (v := ((S.1 2 (j : Int)) + 1)) rfl dX4_addSign_71 ?_
      refine pC_name_size X I (j := j) hj tb_89 dX4_addSign_72 (fun H locs I => ?_)
      have I : In (KC G) s s.heap H locs ((ua (ua S.1 (20 + j) (S.1 2 (j : Int)) x) 2 (j : Int) ((S.1 2 (j : Int)) + 1)), S.2) := I
      exact rt_v X hr hlk I (by first | (exfalso; omega) | exact (by show (_ : St) = _; first | rw [if_pos (by assumption), if_pos (by assumption)] | rw [if_pos (by assumption), if_neg (by assumption), ua_s7 (by decide)] | rw [if_neg (by assumption), ua_self, if_pos (by assumption)] | rw [if_neg (by assumption), ua_self, if_neg (by assumption), ua_self])) dX4_addSign_75

theorem ok_X6_mayBe : yX6_mayBe.cls ≠ "java/lang/invoke/MethodHandle" ∧ yX6_mayBe.cls ≠ "java/lang/invoke/VarHandle" ∧ (parseMethodDescriptor yX6_mayBe.desc).map (fun d => d.parameters.length) = some 1 := ⟨by decide +kernel, by decide +kernel, by decide +kernel⟩
abbrev po_X6_mayBe (S : St)  (x : Int) : Int → St → Prop := fun r S1 => r = bI (0 ≤ x ∧ x ≤ 9) ∧ S1 = S
abbrev rm_X6_mayBe : Room := ({ frames := 0, cells := 0, slots := 0, locals := 0 } : Room)
set_option maxRecDepth 100000 in
set_option maxHeartbeats 4000000 in
theorem k_X6_mayBe (l : Launch) (G : Ge) (S : St)  (x : Int) (hx : -2147483648 ≤ x ∧ x < 2147483648) : Ki (KC G) l yX6_mayBe cX6_mayBe 1 .boolean rm_X6_mayBe [.int (iI x)] S (po_X6_mayBe S x) := by
  refine K_start (own := "NameSeeker$Scales") (by decide +kernel) rfl (Nat.le_of_ble_eq_true rfl) ?_
  intro p e s m args below meth c X hr hlk I ls hl
  have hl : lv_has ls 1 [(0, .int (iI x))] := hl
  refine lv_iload_n X.1 X.2.1 dX6_mayBe_0 rfl (lv_at hl 0 rfl) ?_
  refine rz_lt (tgt := 14) X (by omega) dX6_mayBe_1 (by decide) (fun c1 => ?_) (fun c1 => ?_)
  · skip
    refine ri_const X (v := 0) dX6_mayBe_14 ?_
    exact rt_i X hr hlk I (by rfl) (by first | (exfalso; omega) | exact (⟨(bI_f (by omega)).symm, rfl⟩)) dX6_mayBe_15
  · skip
    refine lv_iload_n X.1 X.2.1 dX6_mayBe_4 rfl (lv_at hl 0 rfl) ?_
    refine ri_push X (v := 9) (by decide) dX6_mayBe_5 ?_
    refine rj_gt (tgt := 14) X (by omega) (by omega) dX6_mayBe_7 (by decide) (fun c2 => ?_) (fun c2 => ?_)
    · skip
      refine ri_const X (v := 0) dX6_mayBe_14 ?_
      exact rt_i X hr hlk I (by rfl) (by first | (exfalso; omega) | exact (⟨(bI_f (by omega)).symm, rfl⟩)) dX6_mayBe_15
    · skip
      refine ri_const X (v := 1) dX6_mayBe_10 ?_
      refine lv_goto (tgt := 15) X.1 X.2.1 dX6_mayBe_11 (by decide) ?_
      exact rt_i X hr hlk I (by rfl) (by first | (exfalso; omega) | exact (⟨(bI_t (by omega)).symm, rfl⟩)) dX6_mayBe_15

theorem ok_X6_set : yX6_set.cls ≠ "java/lang/invoke/MethodHandle" ∧ yX6_set.cls ≠ "java/lang/invoke/VarHandle" ∧ (parseMethodDescriptor yX6_set.desc).map (fun d => d.parameters.length) = some 3 := ⟨by decide +kernel, by decide +kernel, by decide +kernel⟩
abbrev po_X6_set (S : St)  (x : Int) (u : Int) (z : Int) : St → Prop := fun S1 => S1 = (us (us (us S.1 53 x) 54 u) 55 z, S.2)
abbrev rm_X6_set : Room := ({ frames := 0, cells := 0, slots := 0, locals := 0 } : Room)
set_option maxRecDepth 100000 in
set_option maxHeartbeats 4000000 in
theorem k_X6_set (l : Launch) (G : Ge) (S : St)  (x : Int) (u : Int) (z : Int)  : Kv (KC G) l yX6_set cX6_set 4 rm_X6_set [.ref (G.2.2 5), .int (iI x), .int (iI u), .int (iI z)] S (po_X6_set S x u z) := by
  refine K_start (own := "NameSeeker$Scales") (by decide +kernel) rfl (Nat.le_of_ble_eq_true rfl) ?_
  intro p e s m args below meth c X hr hlk I ls hl
  have hl : lv_has ls 4 [(0, .ref (G.2.2 5)), (1, .int (iI x)), (2, .int (iI u)), (3, .int (iI z))] := hl
  refine lv_aload_n X.1 X.2.1 dX6_set_0 rfl (lv_at hl 0 rfl) ?_
  refine lv_iload_n X.1 X.2.1 dX6_set_1 rfl (lv_at hl 1 rfl) ?_
  refine pC_scales_beginning X I tb_142 dX6_set_2 (fun H locs I => ?_)
  have I : In (KC G) s s.heap H locs ((us S.1 53 x), S.2) := I
  refine lv_aload_n X.1 X.2.1 dX6_set_5 rfl (lv_at hl 0 rfl) ?_
  refine lv_iload_n X.1 X.2.1 dX6_set_6 rfl (lv_at hl 2 rfl) ?_
  refine pC_scales_row X I tb_144 dX6_set_7 (fun H locs I => ?_)
  have I : In (KC G) s s.heap H locs ((us (us S.1 53 x) 54 u), S.2) := I
  refine lv_aload_n X.1 X.2.1 dX6_set_10 rfl (lv_at hl 0 rfl) ?_
  refine lv_iload_n X.1 X.2.1 dX6_set_11 rfl (lv_at hl 3 rfl) ?_
  refine pC_scales_gap X I tb_146 dX6_set_12 (fun H locs I => ?_)
  have I : In (KC G) s s.heap H locs ((us (us (us S.1 53 x) 54 u) 55 z), S.2) := I
  exact rt_v X hr hlk I (by first | (exfalso; omega) | exact (rfl)) dX6_set_15

theorem ok_X6_setDefaults : yX6_setDefaults.cls ≠ "java/lang/invoke/MethodHandle" ∧ yX6_setDefaults.cls ≠ "java/lang/invoke/VarHandle" ∧ (parseMethodDescriptor yX6_setDefaults.desc).map (fun d => d.parameters.length) = some 0 := ⟨by decide +kernel, by decide +kernel, by decide +kernel⟩
abbrev po_X6_setDefaults (S : St)   : St → Prop := fun S1 => S1 = (us (us (us S.1 53 3) 54 2) 55 1, S.2)
abbrev rm_X6_setDefaults : Room := ({ frames := 1, cells := 0, slots := 0, locals := 23 } : Room)
set_option maxRecDepth 100000 in
set_option maxHeartbeats 4000000 in
theorem k_X6_setDefaults (l : Launch) (G : Ge) (S : St)    : Kv (KC G) l yX6_setDefaults cX6_setDefaults 1 rm_X6_setDefaults [.ref (G.2.2 5)] S (po_X6_setDefaults S) := by
  refine K_start (own := "NameSeeker$Scales") (by decide +kernel) rfl (Nat.le_of_ble_eq_true rfl) ?_
  intro p e s m args below meth c X hr hlk I ls hl
  have hl : lv_has ls 1 [(0, .ref (G.2.2 5))] := hl
  refine lv_aload_n X.1 X.2.1 dX6_setDefaults_0 rfl (lv_at hl 0 rfl) ?_
  refine ri_const X (v := 3) dX6_setDefaults_1 ?_
  refine ri_const X (v := 2) dX6_setDefaults_2 ?_
  refine ri_const X (v := 1) dX6_setDefaults_3 ?_
  refine cl_v I (runV (As := [.int (iI 3), .int (iI 2), .int (iI 1)]) (rest := []) X (k_X6_set l G S  3 2 1 ) (gdC tb_323 (gdC tb_324 (gdC tb_325 (gdC tb_38 (gdC tb_326 gdB))))) ⟨ok_X6_set, ⟨Nat.le_of_ble_eq_true rfl, Nat.le_of_ble_eq_true rfl⟩, rfl, rfl⟩ (PreV.of (C := RX6) (T := TX6) (N := 3) I (atC_scales) rfl) rfl hl.1 rfl (Nat.le_of_ble_eq_true rfl) dX6_setDefaults_4 ⟨Nat.zero_le _, Nat.zero_le _⟩) (fun S2 H locs q3 I => ?_)
  rw [q3] at I
  have I : In (KC G) s s.heap H locs ((us (us (us S.1 53 3) 54 2) 55 1), S.2) := I
  exact rt_v X hr hlk I (by first | (exfalso; omega) | exact (rfl)) dX6_setDefaults_7

theorem ok_X6_are : yX6_are.cls ≠ "java/lang/invoke/MethodHandle" ∧ yX6_are.cls ≠ "java/lang/invoke/VarHandle" ∧ (parseMethodDescriptor yX6_are.desc).map (fun d => d.parameters.length) = some 3 := ⟨by decide +kernel, by decide +kernel, by decide +kernel⟩
abbrev po_X6_are (S : St)  (x : Int) (u : Int) (z : Int) : Int → St → Prop := fun r S1 => r = bI (S.1 53 0 = x ∧ S.1 54 0 = u ∧ S.1 55 0 = z) ∧ S1 = S
abbrev rm_X6_are : Room := ({ frames := 0, cells := 0, slots := 0, locals := 0 } : Room)
set_option maxRecDepth 100000 in
set_option maxHeartbeats 4000000 in
theorem k_X6_are (l : Launch) (G : Ge) (S : St)  (x : Int) (u : Int) (z : Int) (hsc : (0 ≤ S.1 53 0 ∧ S.1 53 0 ≤ 9) ∧ (0 ≤ S.1 54 0 ∧ S.1 54 0 ≤ 9) ∧ (0 ≤ S.1 55 0 ∧ S.1 55 0 ≤ 9)) (hx : 0 ≤ x ∧ x ≤ 9) (hu : 0 ≤ u ∧ u ≤ 9) (hz : 0 ≤ z ∧ z ≤ 9) : Ki (KC G) l yX6_are cX6_are 4 .boolean rm_X6_are [.ref (G.2.2 5), .int (iI x), .int (iI u), .int (iI z)] S (po_X6_are S x u z) := by
  refine K_start (own := "NameSeeker$Scales") (by decide +kernel) rfl (Nat.le_of_ble_eq_true rfl) ?_
  intro p e s m args below meth c X hr hlk I ls hl
  have hl : lv_has ls 4 [(0, .ref (G.2.2 5)), (1, .int (iI x)), (2, .int (iI u)), (3, .int (iI z))] := hl
  refine lv_aload_n X.1 X.2.1 dX6_are_0 rfl (lv_at hl 0 rfl) ?_
  refine gC_scales_beginning X I (v := (S.1 53 0)) rfl tb_142 dX6_are_1 ?_
  refine lv_iload_n X.1 X.2.1 dX6_are_4 rfl (lv_at hl 1 rfl) ?_
  refine rj_ne (tgt := 28) X (by omega) (by omega) dX6_are_5 (by decide) (fun c1 => ?_) (fun c1 => ?_)
  · skip
    refine ri_const X (v := 0) dX6_are_28 ?_
    exact rt_i X hr hlk I (by rfl) (by first | (exfalso; omega) | exact (⟨(bI_f (by omega)).symm, rfl⟩)) dX6_are_29
  · skip
    refine lv_aload_n X.1 X.2.1 dX6_are_8 rfl (lv_at hl 0 rfl) ?_
    refine gC_scales_row X I (v := (S.1 54 0)) rfl tb_144 dX6_are_9 ?_
    refine lv_iload_n X.1 X.2.1 dX6_are_12 rfl (lv_at hl 2 rfl) ?_
    refine rj_ne (tgt := 28) X (by omega) (by omega) dX6_are_13 (by decide) (fun c2 => ?_) (fun c2 => ?_)
    · skip
      refine ri_const X (v := 0) dX6_are_28 ?_
      exact rt_i X hr hlk I (by rfl) (by first | (exfalso; omega) | exact (⟨(bI_f (by omega)).symm, rfl⟩)) dX6_are_29
    · skip
      refine lv_aload_n X.1 X.2.1 dX6_are_16 rfl (lv_at hl 0 rfl) ?_
      refine gC_scales_gap X I (v := (S.1 55 0)) rfl tb_146 dX6_are_17 ?_
      refine lv_iload_n X.1 X.2.1 dX6_are_20 rfl (lv_at hl 3 rfl) ?_
      refine rj_ne (tgt := 28) X (by omega) (by omega) dX6_are_21 (by decide) (fun c3 => ?_) (fun c3 => ?_)
      · skip
        refine ri_const X (v := 0) dX6_are_28 ?_
        exact rt_i X hr hlk I (by rfl) (by first | (exfalso; omega) | exact (⟨(bI_f (by omega)).symm, rfl⟩)) dX6_are_29
      · skip
        refine ri_const X (v := 1) dX6_are_24 ?_
        refine lv_goto (tgt := 29) X.1 X.2.1 dX6_are_25 (by decide) ?_
        exact rt_i X hr hlk I (by rfl) (by first | (exfalso; omega) | exact (⟨(bI_t (by omega)).symm, rfl⟩)) dX6_are_29

theorem ok_X6_ofPlace : yX6_ofPlace.cls ≠ "java/lang/invoke/MethodHandle" ∧ yX6_ofPlace.cls ≠ "java/lang/invoke/VarHandle" ∧ (parseMethodDescriptor yX6_ofPlace.desc).map (fun d => d.parameters.length) = some 2 := ⟨by decide +kernel, by decide +kernel, by decide +kernel⟩
abbrev po_X6_ofPlace (S : St) (j : Nat) (q : Int) : Int → St → Prop := fun r S1 => r = opl (S.1 6 (j : Int)) (S.1 3 (j : Int)) (S.1 53 0) q ∧ S1 = S
abbrev rm_X6_ofPlace : Room := ({ frames := 0, cells := 0, slots := 0, locals := 0 } : Room)
set_option maxRecDepth 100000 in
set_option maxHeartbeats 4000000 in
theorem k_X6_ofPlace (l : Launch) (G : Ge) (S : St) (j : Nat) (q : Int) (hj : j < 8) (hq : 0 ≤ q ∧ q < 12) (hk : 0 ≤ S.1 3 (j : Int) ∧ S.1 3 (j : Int) ≤ 3) (hb : 0 ≤ S.1 6 (j : Int) ∧ S.1 6 (j : Int) < 2147483648) (hsc : (0 ≤ S.1 53 0 ∧ S.1 53 0 ≤ 9) ∧ (0 ≤ S.1 54 0 ∧ S.1 54 0 ≤ 9) ∧ (0 ≤ S.1 55 0 ∧ S.1 55 0 ≤ 9)) : Ki (KC G) l yX6_ofPlace cX6_ofPlace 4 .int rm_X6_ofPlace [.ref (G.2.2 5), .ref (G.2.2 (41 + 2 * j)), .int (iI q)] S (po_X6_ofPlace S j q) := by
  refine K_start (own := "NameSeeker$Scales") (by decide +kernel) rfl (Nat.le_of_ble_eq_true rfl) ?_
  intro p e s m args below meth c X hr hlk I ls hl
  have hl : lv_has ls 4 [(0, .ref (G.2.2 5)), (1, .ref (G.2.2 (41 + 2 * j))), (2, .int (iI q))] := hl
  refine lv_aload_n X.1 X.2.1 dX6_ofPlace_0 rfl (lv_at hl 1 rfl) ?_
  refine gC_name_beginnings X I (j := j) hj (v := (S.1 6 (j : Int))) rfl tb_102 dX6_ofPlace_1 ?_
  refine ri_const X (v := 1) dX6_ofPlace_4 ?_
  refine lv_iload_n X.1 X.2.1 dX6_ofPlace_5 rfl (lv_at hl 2 rfl) ?_
  refine ri_shl X (by omega) dX6_ofPlace_6 ?_
  have t1 := pw_r (k := q) (by omega)
  refine ri_and X (by omega) (by omega) dX6_ofPlace_7 ?_
  have t2 := band_r (S.1 6 (j : Int)) (b := (pw q)) (by omega)
  refine rz_ne (tgt := 14) X (by omega) dX6_ofPlace_8 (by decide) (fun c3 => ?_) (fun c3 => ?_)
  · skip
    refine lv_aload_n X.1 X.2.1 dX6_ofPlace_14 rfl (lv_at hl 1 rfl) ?_
    refine gC_name_kind X I (j := j) hj (v := (S.1 3 (j : Int))) rfl tb_94 dX6_ofPlace_15 ?_
    refine ri_const X (v := 2) dX6_ofPlace_18 ?_
    refine rj_ne (tgt := 30) X (by omega) (by omega) dX6_ofPlace_19 (by decide) (fun c4 => ?_) (fun c4 => ?_)
    · skip
      refine ri_const X (v := 0) dX6_ofPlace_30 ?_
      refine lv_istore_n (lv' := [(3, .int (iI 0)), (0, .ref (G.2.2 5)), (1, .ref (G.2.2 (41 + 2 * j))), (2, .int (iI q))]) X.1 X.2.1 dX6_ofPlace_31 rfl hl (by decide) rfl (fun ls hl => ?_)
      refine ri_push X (v := 50) (by decide) dX6_ofPlace_32 ?_
      refine lv_iload_n X.1 X.2.1 dX6_ofPlace_34 rfl (lv_at hl 0 rfl) ?_
      refine rz_eq (tgt := 47) X (by omega) dX6_ofPlace_35 (by decide) (fun _ => ?_) (fun c5 => absurd c5 (fun q => q (by decide)))
      refine lv_aload_n X.1 X.2.1 dX6_ofPlace_47 rfl (lv_at hl 1 rfl) ?_
      refine gC_scales_beginning X I (v := (S.1 53 0)) rfl tb_142 dX6_ofPlace_48 ?_
      refine ri_add X (v := (50 + (S.1 53 0))) rfl dX6_ofPlace_51 ?_
      exact rt_i X hr hlk I rfl (by first | (exfalso; omega) | exact (⟨by unfold opl; first | rw [if_pos (by omega)] | rw [if_neg (by omega), if_pos (by omega)] | rw [if_neg (by omega), if_neg (by omega)], rfl⟩)) dX6_ofPlace_52
    · skip
      refine lv_iload_n X.1 X.2.1 dX6_ofPlace_22 rfl (lv_at hl 2 rfl) ?_
      refine rz_ne (tgt := 30) X (by omega) dX6_ofPlace_23 (by decide) (fun c6 => ?_) (fun c6 => ?_)
      · skip
        refine ri_const X (v := 0) dX6_ofPlace_30 ?_
        refine lv_istore_n (lv' := [(3, .int (iI 0)), (0, .ref (G.2.2 5)), (1, .ref (G.2.2 (41 + 2 * j))), (2, .int (iI q))]) X.1 X.2.1 dX6_ofPlace_31 rfl hl (by decide) rfl (fun ls hl => ?_)
        refine ri_push X (v := 50) (by decide) dX6_ofPlace_32 ?_
        refine lv_iload_n X.1 X.2.1 dX6_ofPlace_34 rfl (lv_at hl 0 rfl) ?_
        refine rz_eq (tgt := 47) X (by omega) dX6_ofPlace_35 (by decide) (fun _ => ?_) (fun c7 => absurd c7 (fun q => q (by decide)))
        refine lv_aload_n X.1 X.2.1 dX6_ofPlace_47 rfl (lv_at hl 1 rfl) ?_
        refine gC_scales_beginning X I (v := (S.1 53 0)) rfl tb_142 dX6_ofPlace_48 ?_
        refine ri_add X (v := (50 + (S.1 53 0))) rfl dX6_ofPlace_51 ?_
        exact rt_i X hr hlk I rfl (by first | (exfalso; omega) | exact (⟨by unfold opl; first | rw [if_pos (by omega)] | rw [if_neg (by omega), if_pos (by omega)] | rw [if_neg (by omega), if_neg (by omega)], rfl⟩)) dX6_ofPlace_52
      · skip
        refine ri_const X (v := 1) dX6_ofPlace_26 ?_
        refine lv_goto (tgt := 31) X.1 X.2.1 dX6_ofPlace_27 (by decide) ?_
        refine lv_istore_n (lv' := [(3, .int (iI 1)), (0, .ref (G.2.2 5)), (1, .ref (G.2.2 (41 + 2 * j))), (2, .int (iI q))]) X.1 X.2.1 dX6_ofPlace_31 rfl hl (by decide) rfl (fun ls hl => ?_)
        refine ri_push X (v := 50) (by decide) dX6_ofPlace_32 ?_
        refine lv_iload_n X.1 X.2.1 dX6_ofPlace_34 rfl (lv_at hl 0 rfl) ?_
        refine rz_eq (tgt := 47) X (by omega) dX6_ofPlace_35 (by decide) (fun c8 => absurd c8 (by decide)) (fun _ => ?_)
        refine ri_const X (v := 2) dX6_ofPlace_38 ?_
        refine lv_aload_n X.1 X.2.1 dX6_ofPlace_39 rfl (lv_at hl 1 rfl) ?_
        refine gC_scales_beginning X I (v := (S.1 53 0)) rfl tb_142 dX6_ofPlace_40 ?_
        refine ri_mul X (v := (2 * (S.1 53 0))) rfl dX6_ofPlace_43 ?_
        refine lv_goto (tgt := 51) X.1 X.2.1 dX6_ofPlace_44 (by decide) ?_
        refine ri_add X (v := (50 + (2 * (S.1 53 0)))) rfl dX6_ofPlace_51 ?_
        exact rt_i X hr hlk I rfl (by first | (exfalso; omega) | exact (⟨by unfold opl; first | rw [if_pos (by omega)] | rw [if_neg (by omega), if_pos (by omega)] | rw [if_neg (by omega), if_neg (by omega)], rfl⟩)) dX6_ofPlace_52
  · skip
    refine ri_push X (v := 50) (by decide) dX6_ofPlace_11 ?_
    exact rt_i X hr hlk I rfl (by first | (exfalso; omega) | exact (⟨by unfold opl; first | rw [if_pos (by omega)] | rw [if_neg (by omega), if_pos (by omega)] | rw [if_neg (by omega), if_neg (by omega)], rfl⟩)) dX6_ofPlace_13

theorem ok_X6_ofStep : yX6_ofStep.cls ≠ "java/lang/invoke/MethodHandle" ∧ yX6_ofStep.cls ≠ "java/lang/invoke/VarHandle" ∧ (parseMethodDescriptor yX6_ofStep.desc).map (fun d => d.parameters.length) = some 3 := ⟨by decide +kernel, by decide +kernel, by decide +kernel⟩
abbrev po_X6_ofStep (S : St) (j : Nat) (q : Int) (x : Int) : Int → St → Prop := fun r S1 => r = ost (S.1 3 (j : Int)) (S.1 54 0) (S.1 55 0) q x ∧ S1 = S
abbrev rm_X6_ofStep : Room := ({ frames := 0, cells := 0, slots := 0, locals := 0 } : Room)
set_option maxRecDepth 100000 in
set_option maxHeartbeats 4000000 in
theorem k_X6_ofStep (l : Launch) (G : Ge) (S : St) (j : Nat) (q : Int) (x : Int) (hj : j < 8) (hq : 0 ≤ q ∧ q < 12) (hx : 0 ≤ x ∧ x < 12) (hk : 0 ≤ S.1 3 (j : Int) ∧ S.1 3 (j : Int) ≤ 3) (hsc : (0 ≤ S.1 53 0 ∧ S.1 53 0 ≤ 9) ∧ (0 ≤ S.1 54 0 ∧ S.1 54 0 ≤ 9) ∧ (0 ≤ S.1 55 0 ∧ S.1 55 0 ≤ 9)) : Ki (KC G) l yX6_ofStep cX6_ofStep 4 .int rm_X6_ofStep [.ref (G.2.2 5), .ref (G.2.2 (41 + 2 * j)), .int (iI q), .int (iI x)] S (po_X6_ofStep S j q x) := by
  refine K_start (own := "NameSeeker$Scales") (by decide +kernel) rfl (Nat.le_of_ble_eq_true rfl) ?_
  intro p e s m args below meth c X hr hlk I ls hl
  have hl : lv_has ls 4 [(0, .ref (G.2.2 5)), (1, .ref (G.2.2 (41 + 2 * j))), (2, .int (iI q)), (3, .int (iI x))] := hl
  refine lv_iload_n X.1 X.2.1 dX6_ofStep_0 rfl (lv_at hl 3 rfl) ?_
  refine lv_iload_n X.1 X.2.1 dX6_ofStep_1 rfl (lv_at hl 2 rfl) ?_
  refine ri_const X (v := 1) dX6_ofStep_2 ?_
  refine ri_add X (v := (q + 1)) rfl dX6_ofStep_3 ?_
  refine rj_ne (tgt := 12) X (by omega) (by omega) dX6_ofStep_4 (by decide) (fun c1 => ?_) (fun c1 => ?_)
  · skip
    refine lv_aload_n X.1 X.2.1 dX6_ofStep_12 rfl (lv_at hl 1 rfl) ?_
    refine gC_name_kind X I (j := j) hj (v := (S.1 3 (j : Int))) rfl tb_94 dX6_ofStep_13 ?_
    refine ri_const X (v := 3) dX6_ofStep_16 ?_
    refine rj_ne (tgt := 24) X (by omega) (by omega) dX6_ofStep_17 (by decide) (fun c2 => ?_) (fun c2 => ?_)
    · skip
      refine lv_aload_n X.1 X.2.1 dX6_ofStep_24 rfl (lv_at hl 0 rfl) ?_
      refine gC_scales_gap X I (v := (S.1 55 0)) rfl tb_146 dX6_ofStep_25 ?_
      refine ri_neg X (v := (-(S.1 55 0))) rfl dX6_ofStep_28 ?_
      refine lv_iload_n X.1 X.2.1 dX6_ofStep_29 rfl (lv_at hl 3 rfl) ?_
      refine lv_iload_n X.1 X.2.1 dX6_ofStep_30 rfl (lv_at hl 2 rfl) ?_
      refine ri_sub X (v := (x - q)) rfl dX6_ofStep_31 ?_
      refine ri_const X (v := 1) dX6_ofStep_32 ?_
      refine ri_sub X (v := ((x - q) - 1)) rfl dX6_ofStep_33 ?_
      refine ri_mul X (v := ((-(S.1 55 0)) * ((x - q) - 1))) rfl dX6_ofStep_34 ?_
      exact rt_i X hr hlk I rfl (by first | (exfalso; omega) | exact (⟨by unfold ost; first | rw [if_pos (by omega)] | rw [if_neg (by omega), if_pos (by omega)] | rw [if_neg (by omega), if_neg (by omega)], rfl⟩)) dX6_ofStep_35
    · skip
      refine ri_const X (v := 0) dX6_ofStep_20 ?_
      refine lv_goto (tgt := 35) X.1 X.2.1 dX6_ofStep_21 (by decide) ?_
      exact rt_i X hr hlk I rfl (by first | (exfalso; omega) | exact (⟨by unfold ost; first | rw [if_pos (by omega)] | rw [if_neg (by omega), if_pos (by omega)] | rw [if_neg (by omega), if_neg (by omega)], rfl⟩)) dX6_ofStep_35
  · skip
    refine lv_aload_n X.1 X.2.1 dX6_ofStep_7 rfl (lv_at hl 0 rfl) ?_
    refine gC_scales_row X I (v := (S.1 54 0)) rfl tb_144 dX6_ofStep_8 ?_
    exact rt_i X hr hlk I rfl (by first | (exfalso; omega) | exact (⟨by unfold ost; first | rw [if_pos (by omega)] | rw [if_neg (by omega), if_pos (by omega)] | rw [if_neg (by omega), if_neg (by omega)], rfl⟩)) dX6_ofStep_11
