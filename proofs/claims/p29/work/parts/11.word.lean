theorem ua_s7 {f : Nat → Int → Int} {c c2 : Nat} {i j v : Int} (h : ¬ c2 = c) : ua (ua f c i v) c2 j (f c2 j) = ua f c i v := by
  rw [show f c2 j = ua f c i v c2 j by rw [ua_nc h], ua_self]
theorem lnum_r (x : Int) (h : 0 ≤ x ∧ x ≤ 65535) : -65 ≤ lnum x ∧ lnum x ≤ 65535 := by unfold lnum; split <;> omega
theorem lnum_l (x : Int) (h : (97 ≤ x ∧ x ≤ 122) ∨ (65 ≤ x ∧ x ≤ 90)) : 0 ≤ lnum x ∧ lnum x ≤ 25 := by unfold lnum; split <;> omega
/-- the code of so many letters -/
def cdv (f : Int → Int) : Nat → Int
  | 0 => 0
  | n + 1 => (((53 * cdv f n) + (if (65 ≤ f n ∧ f n ≤ 90) then 26 else 0)) + lnum (f n)) + 1
theorem cdv_s0 {f : Int → Int} {i : Int} (hi : 0 ≤ i) (h : ¬ (65 ≤ f i ∧ f i ≤ 90)) : ((53 * cdv f i.toNat) + lnum (f i)) + 1 = cdv f (i + 1).toNat := by
  rw [show (i + 1).toNat = i.toNat + 1 by omega, cdv, show ((i.toNat : Nat) : Int) = i by omega, if_neg h]; omega
theorem cdv_s {f : Int → Int} {i g : Int} (hi : 0 ≤ i) (h : ((65 ≤ f i ∧ f i ≤ 90) ∧ g = 26) ∨ (¬ (65 ≤ f i ∧ f i ≤ 90) ∧ g = 0)) : (((53 * cdv f i.toNat) + g) + lnum (f i)) + 1 = cdv f (i + 1).toNat := by
  rw [show (i + 1).toNat = i.toNat + 1 by omega, cdv, show ((i.toNat : Nat) : Int) = i by omega]
  rcases h with ⟨h, rfl⟩ | ⟨h, rfl⟩
  · rw [if_pos h]
  · rw [if_neg h]
/-- the letters of a word, as bits -/
def wlb (f : Int → Int) : Nat → Int
  | 0 => 0
  | n + 1 => bor (wlb f n) (pw (lnum (f n)))
theorem wlb_s {f : Int → Int} {i : Int} (hi : 0 ≤ i) : bor (wlb f i.toNat) (pw (lnum (f i))) = wlb f (i + 1).toNat := by
  rw [show (i + 1).toNat = i.toNat + 1 by omega, wlb, show ((i.toNat : Nat) : Int) = i by omega]
theorem wlb_r (f : Int → Int) : ∀ n : Nat, (∀ i : Int, 0 ≤ i → i < n → ((97 ≤ f i ∧ f i ≤ 122) ∨ (65 ≤ f i ∧ f i ≤ 90))) → 0 ≤ wlb f n ∧ wlb f n < 2147483648
  | 0, _ => by rw [wlb]; omega
  | n + 1, h => by
    have h1 := wlb_r f n (fun i h2 h3 => h i h2 (by omega))
    have h2 := lnum_l (f n) (h n (by omega) (by omega))
    rw [wlb]
    exact bor_r h1 ⟨by have := pw_r (k := lnum (f n)) (by omega); omega, (pw_r (by omega)).2⟩
/-- a sign is alike to a letter, in a name of a kind -/
abbrev alk (s k x : Int) : Prop := s = x ∨ (¬ k = 1 ∧ ((97 ≤ s ∧ s ≤ 122) ∨ (65 ≤ s ∧ s ≤ 90)) ∧ lnum s = lnum x)
def opl (bg k b q : Int) : Int := if band bg (pw q) = 0 then 50 else if k = 2 ∧ q = 0 then 50 + 2 * b else 50 + b
def ost (k r g q x : Int) : Int := if x = q + 1 then r else if k = 3 then 0 else (-g) * ((x - q) - 1)
theorem opl_r {bg k b q : Int} (hb : 0 ≤ b ∧ b ≤ 9) : 50 ≤ opl bg k b q ∧ opl bg k b q ≤ 68 := by unfold opl; split <;> (try split) <;> omega
theorem ost_r {k r g q x : Int} (hr : 0 ≤ r ∧ r ≤ 9) (hg : 0 ≤ g ∧ g ≤ 9) (hq : 0 ≤ q ∧ q < 12) (hx : q < x ∧ x < 12) : -99 ≤ ost k r g q x ∧ ost k r g q x ≤ 9 ∧ -(9 * (x - q - 1)) ≤ ost k r g q x := by
  unfold ost
  split
  · omega
  · split
    · omega
    · have h1 : g * ((x - q) - 1) ≤ 9 * ((x - q) - 1) := Int.mul_le_mul_of_nonneg_right hg.2 (by omega)
      have h2 : 0 ≤ g * ((x - q) - 1) := Int.mul_nonneg hg.1 (by omega)
      rw [Int.neg_mul]
      omega

theorem ok_X8_clear : yX8_clear.cls ≠ "java/lang/invoke/MethodHandle" ∧ yX8_clear.cls ≠ "java/lang/invoke/VarHandle" ∧ (parseMethodDescriptor yX8_clear.desc).map (fun d => d.parameters.length) = some 0 := ⟨by decide +kernel, by decide +kernel, by decide +kernel⟩
abbrev po_X8_clear (S : St) (w : Nat)  : St → Prop := fun S1 => S1 = (ua S.1 8 (w : Int) 0, S.2)
abbrev rm_X8_clear : Room := ({ frames := 0, cells := 0, slots := 0, locals := 0 } : Room)
set_option maxRecDepth 100000 in
set_option maxHeartbeats 4000000 in
theorem k_X8_clear (l : Launch) (G : Ge) (S : St) (w : Nat)   (hw : w < 4) : Kv (KC G) l yX8_clear cX8_clear 1 rm_X8_clear [.ref (G.2.2 (6 + 2 * w))] S (po_X8_clear S w) := by
  refine K_start (own := "NameSeeker$Word") (by decide +kernel) rfl (Nat.le_of_ble_eq_true rfl) ?_
  intro p e s m args below meth c X hr hlk I ls hl
  have hl : lv_has ls 1 [(0, .ref (G.2.2 (6 + 2 * w)))] := hl
  refine lv_aload_n X.1 X.2.1 dX8_clear_0 rfl (lv_at hl 0 rfl) ?_
  refine ri_const X (v := 0) dX8_clear_1 ?_
  refine pC_word_size X I (w := w) hw tb_140 dX8_clear_2 (fun H locs I => ?_)
  have I : In (KC G) s s.heap H locs ((ua S.1 8 (w : Int) 0), S.2) := I
  exact rt_v X hr hlk I (by exact rfl) dX8_clear_5

theorem ok_X8_add : yX8_add.cls ≠ "java/lang/invoke/MethodHandle" ∧ yX8_add.cls ≠ "java/lang/invoke/VarHandle" ∧ (parseMethodDescriptor yX8_add.desc).map (fun d => d.parameters.length) = some 1 := ⟨by decide +kernel, by decide +kernel, by decide +kernel⟩
abbrev po_X8_add (S : St) (w : Nat) (x : Int) : St → Prop := fun S1 => S1 = (ua (ua S.1 (16 + w) (S.1 8 (w : Int)) x) 8 (w : Int) (S.1 8 (w : Int) + 1), S.2)
abbrev rm_X8_add : Room := ({ frames := 0, cells := 0, slots := 0, locals := 0 } : Room)
set_option maxRecDepth 100000 in
set_option maxHeartbeats 4000000 in
theorem k_X8_add (l : Launch) (G : Ge) (S : St) (w : Nat) (x : Int)  (hw : w < 4) (hz : 0 ≤ S.1 8 (w : Int) ∧ S.1 8 (w : Int) < 6) (hx : 0 ≤ x ∧ x < 65536) : Kv (KC G) l yX8_add cX8_add 2 rm_X8_add [.ref (G.2.2 (6 + 2 * w)), .int (iI x)] S (po_X8_add S w x) := by
  refine K_start (own := "NameSeeker$Word") (by decide +kernel) rfl (Nat.le_of_ble_eq_true rfl) ?_
  intro p e s m args below meth c X hr hlk I ls hl
  have hl : lv_has ls 2 [(0, .ref (G.2.2 (6 + 2 * w))), (1, .int (iI x))] := hl
  refine lv_aload_n X.1 X.2.1 dX8_add_0 rfl (lv_at hl 0 rfl) ?_
  refine gC_word_size X I (w := w) hw (v := (S.1 8 (w : Int))) rfl tb_140 dX8_add_1 ?_
  refine ri_push X (v := 6) (by decide) dX8_add_4 ?_
  refine rj_ge (tgt := 29) X (by omega) (by omega) dX8_add_6 (by decide) (fun c1 => absurd c1 (by omega)) (fun _ => ?_)
  refine lv_aload_n X.1 X.2.1 dX8_add_9 rfl (lv_at hl 0 rfl) ?_
  refine gC_word_letters X I (w := w) hw tb_137 dX8_add_10 ?_
  refine lv_aload_n X.1 X.2.1 dX8_add_13 rfl (lv_at hl 0 rfl) ?_
  refine gC_word_size X I (w := w) hw (v := (S.1 8 (w : Int))) rfl tb_140 dX8_add_14 ?_
  refine lv_iload_n X.1 X.2.1 dX8_add_17 rfl (lv_at hl 1 rfl) ?_
  refine qC_word X I (w := w) hw (by omega) (by omega) dX8_add_18 (fun H locs I => ?_)
  have I : In (KC G) s s.heap H locs ((ua S.1 (16 + w) (S.1 8 (w : Int)) x), S.2) := I
  refine lv_aload_n X.1 X.2.1 dX8_add_19 rfl (lv_at hl 0 rfl) ?_
  refine lv_dup X.1 X.2.1 dX8_add_20 rfl ?_
  refine gC_word_size X I (w := w) hw (v := (S.1 8 (w : Int))) (by (try dsimp only); rw [ua_nc (by omega)]) tb_140 dX8_add_21 ?_
  refine ri_const X (v := 1) dX8_add_24 ?_
  refine ri_add X (v := ((S.1 8 (w : Int)) + 1)) rfl dX8_add_25 ?_
  refine pC_word_size X I (w := w) hw tb_140 dX8_add_26 (fun H locs I => ?_)
  have I : In (KC G) s s.heap H locs ((ua (ua S.1 (16 + w) (S.1 8 (w : Int)) x) 8 (w : Int) ((S.1 8 (w : Int)) + 1)), S.2) := I
  exact rt_v X hr hlk I (by exact rfl) dX8_add_29

theorem ok_X8_removeLast : yX8_removeLast.cls ≠ "java/lang/invoke/MethodHandle" ∧ yX8_removeLast.cls ≠ "java/lang/invoke/VarHandle" ∧ (parseMethodDescriptor yX8_removeLast.desc).map (fun d => d.parameters.length) = some 0 := ⟨by decide +kernel, by decide +kernel, by decide +kernel⟩
abbrev po_X8_removeLast (S : St) (w : Nat)  : Int → St → Prop := fun r S1 => (S.1 8 (w : Int) = 0 ∧ r = -2 ∧ S1 = S) ∨ (0 < S.1 8 (w : Int) ∧ r = S.1 (16 + w) (S.1 8 (w : Int) - 1) ∧ S1 = (ua S.1 8 (w : Int) (S.1 8 (w : Int) - 1), S.2))
abbrev rm_X8_removeLast : Room := ({ frames := 0, cells := 0, slots := 0, locals := 0 } : Room)
set_option maxRecDepth 100000 in
set_option maxHeartbeats 4000000 in
theorem k_X8_removeLast (l : Launch) (G : Ge) (S : St) (w : Nat)   (hw : w < 4) (hz : 0 ≤ S.1 8 (w : Int) ∧ S.1 8 (w : Int) ≤ 6) : Ki (KC G) l yX8_removeLast cX8_removeLast 1 .int rm_X8_removeLast [.ref (G.2.2 (6 + 2 * w))] S (po_X8_removeLast S w) := by
  refine K_start (own := "NameSeeker$Word") (by decide +kernel) rfl (Nat.le_of_ble_eq_true rfl) ?_
  intro p e s m args below meth c X hr hlk I ls hl
  have hl : lv_has ls 1 [(0, .ref (G.2.2 (6 + 2 * w)))] := hl
  refine lv_aload_n X.1 X.2.1 dX8_removeLast_0 rfl (lv_at hl 0 rfl) ?_
  refine gC_word_size X I (w := w) hw (v := (S.1 8 (w : Int))) rfl tb_140 dX8_removeLast_1 ?_
  refine rz_ne (tgt := 10) X (by omega) dX8_removeLast_4 (by decide) (fun c1 => ?_) (fun c1 => ?_)
  · skip
    refine lv_aload_n X.1 X.2.1 dX8_removeLast_10 rfl (lv_at hl 0 rfl) ?_
    refine lv_dup X.1 X.2.1 dX8_removeLast_11 rfl ?_
    refine gC_word_size X I (w := w) hw (v := (S.1 8 (w : Int))) rfl tb_140 dX8_removeLast_12 ?_
    refine ri_const X (v := 1) dX8_removeLast_15 ?_
    refine ri_sub X (v := ((S.1 8 (w : Int)) - 1)) rfl dX8_removeLast_16 ?_
    refine pC_word_size X I (w := w) hw tb_140 dX8_removeLast_17 (fun H locs I => ?_)
    have I : In (KC G) s s.heap H locs ((ua S.1 8 (w : Int) ((S.1 8 (w : Int)) - 1)), S.2) := I
    refine lv_aload_n X.1 X.2.1 dX8_removeLast_20 rfl (lv_at hl 0 rfl) ?_
    refine gC_word_letters X I (w := w) hw tb_137 dX8_removeLast_21 ?_
    refine lv_aload_n X.1 X.2.1 dX8_removeLast_24 rfl (lv_at hl 0 rfl) ?_
    refine gC_word_size X I (w := w) hw (v := ((S.1 8 (w : Int)) - 1)) (by (try dsimp only); rw [ua_eq]) tb_140 dX8_removeLast_25 ?_
    refine aC_word X I (w := w) hw (v := (S.1 (16 + w) ((S.1 8 (w : Int)) - 1))) (by (try dsimp only); rw [ua_nc (by omega)]) (by omega) dX8_removeLast_28 ?_
    exact rt_i X hr hlk I rfl (by exact Or.inr ⟨by omega, rfl, rfl⟩) dX8_removeLast_29
  · skip
    refine ri_push X (v := (-2)) (by decide) dX8_removeLast_7 ?_
    exact rt_i X hr hlk I rfl (by exact Or.inl ⟨by omega, rfl, rfl⟩) dX8_removeLast_9

theorem ok_X8_copy : yX8_copy.cls ≠ "java/lang/invoke/MethodHandle" ∧ yX8_copy.cls ≠ "java/lang/invoke/VarHandle" ∧ (parseMethodDescriptor yX8_copy.desc).map (fun d => d.parameters.length) = some 1 := ⟨by decide +kernel, by decide +kernel, by decide +kernel⟩
abbrev po_X8_copy (S : St) (w : Nat) (v : Nat)  : St → Prop := fun S1 => S1.2 = S.2 ∧ S1.1 8 (w : Int) = S.1 8 (v : Int) ∧ (∀ i : Int, 0 ≤ i → i < S.1 8 (v : Int) → S1.1 (16 + w) i = S.1 (16 + v) i) ∧ ∀ (c_ : Nat) (i : Int), ¬ c_ = 16 + w → ¬ (c_ = 8 ∧ i = (w : Int)) → S1.1 c_ i = S.1 c_ i
abbrev rm_X8_copy : Room := ({ frames := 0, cells := 0, slots := 0, locals := 0 } : Room)
set_option maxRecDepth 100000 in
set_option maxHeartbeats 4000000 in
theorem k_X8_copy (l : Launch) (G : Ge) (S : St) (w : Nat) (v : Nat)   (hw : w < 4) (hv : v < 4) (hne : ¬ w = v) (hz : 0 ≤ S.1 8 (v : Int) ∧ S.1 8 (v : Int) ≤ 6) (hL : ∀ i : Int, 0 ≤ i → i < S.1 8 (v : Int) → 0 ≤ S.1 (16 + v) i ∧ S.1 (16 + v) i < 65536) : Kv (KC G) l yX8_copy cX8_copy 3 rm_X8_copy [.ref (G.2.2 (6 + 2 * w)), .ref (G.2.2 (6 + 2 * v))] S (po_X8_copy S w v) := by
  refine K_start (own := "NameSeeker$Word") (by decide +kernel) rfl (Nat.le_of_ble_eq_true rfl) ?_
  intro p e s m args below meth c X hr hlk I ls hl
  have hl : lv_has ls 3 [(0, .ref (G.2.2 (6 + 2 * w))), (1, .ref (G.2.2 (6 + 2 * v)))] := hl
  refine lv_aload_n X.1 X.2.1 dX8_copy_0 rfl (lv_at hl 0 rfl) ?_
  refine lv_aload_n X.1 X.2.1 dX8_copy_1 rfl (lv_at hl 1 rfl) ?_
  refine gC_word_size X I (w := v) hv (v := (S.1 8 (v : Int))) rfl tb_140 dX8_copy_2 ?_
  refine pC_word_size X I (w := w) hw tb_140 dX8_copy_5 (fun H locs I => ?_)
  have I : In (KC G) s s.heap H locs ((ua S.1 8 (w : Int) (S.1 8 (v : Int))), S.2) := I
  refine ri_const X (v := 0) dX8_copy_8 ?_
  refine lv_istore_n (lv' := [(2, .int (iI 0)), (0, .ref (G.2.2 (6 + 2 * w))), (1, .ref (G.2.2 (6 + 2 * v)))]) X.1 X.2.1 dX8_copy_9 rfl hl (by decide) rfl (fun ls hl => ?_)
  have lp_10 : ∀ (n_ : Nat) (i : Int) (T : St), (6 - i).toNat < n_ → ∀ (hi : 0 ≤ i ∧ i ≤ S.1 8 (v : Int)) (h2 : T.2 = S.2) (h8 : T.1 8 (w : Int) = S.1 8 (v : Int)) (hl2 : ∀ j : Int, 0 ≤ j → j < i → T.1 (16 + w) j = S.1 (16 + v) j) (hf : ∀ (c_ : Nat) (j : Int), ¬ c_ = 16 + w → ¬ (c_ = 8 ∧ j = (w : Int)) → T.1 c_ j = S.1 c_ j) (H : Heap) (locs : List Loc), In (KC G) s s.heap H locs T → ∀ ls : Array Slot, lv_has ls 3 [(0, .ref (G.2.2 (6 + 2 * w))), (1, .ref (G.2.2 (6 + 2 * v))), (2, .int (iI i))] → W p l e rm_X8_copy s m args below meth c H locs 0 0 (MQ below (QV (KC G) (po_X8_copy S w v)) args s 0 0 (KC G).2.2.2) (F0 m 10 ls []) := by
    intro n_
    induction n_ with
    | zero => intro i T hm; exact absurd hm (by omega)
    | succ n_ ih_10 =>
      intro i T hm_10 hi h2 h8 hl2 hf H locs I ls hl
      refine lv_iload_n X.1 X.2.1 dX8_copy_10 rfl (lv_at hl 2 rfl) ?_
      refine lv_aload_n X.1 X.2.1 dX8_copy_11 rfl (lv_at hl 0 rfl) ?_
      refine gC_word_size X I (w := w) hw (v := (T.1 8 (w : Int))) rfl tb_140 dX8_copy_12 ?_
      refine rj_ge (tgt := 36) X (by omega) (by omega) dX8_copy_15 (by decide) (fun c1 => ?_) (fun c1 => ?_)
      · skip
        exact rt_v X hr hlk I (by exact ⟨h2, h8, fun j h1 h3 => hl2 j h1 (by omega), hf⟩) dX8_copy_36
      · skip
        have hLi := hL i (by omega) (by omega)
        have hTi := hf (16 + v) i (by omega) (by omega)
        refine lv_aload_n X.1 X.2.1 dX8_copy_18 rfl (lv_at hl 0 rfl) ?_
        refine gC_word_letters X I (w := w) hw tb_137 dX8_copy_19 ?_
        refine lv_iload_n X.1 X.2.1 dX8_copy_22 rfl (lv_at hl 2 rfl) ?_
        refine lv_aload_n X.1 X.2.1 dX8_copy_23 rfl (lv_at hl 1 rfl) ?_
        refine gC_word_letters X I (w := v) hv tb_137 dX8_copy_24 ?_
        refine lv_iload_n X.1 X.2.1 dX8_copy_27 rfl (lv_at hl 2 rfl) ?_
        refine aC_word X I (w := v) hv (v := (T.1 (16 + v) i)) rfl (by omega) dX8_copy_28 ?_
        refine qC_word X I (w := w) hw (by omega) (by omega) dX8_copy_29 (fun H locs I => ?_)
        have I : In (KC G) s s.heap H locs ((ua T.1 (16 + w) i (T.1 (16 + v) i)), T.2) := I
        refine ri_iinc X (k := 2) (v := (i + 1)) (lv' := [(2, .int (iI (i + 1))), (0, .ref (G.2.2 (6 + 2 * w))), (1, .ref (G.2.2 (6 + 2 * v)))]) rfl dX8_copy_30 hl rfl (by decide) rfl (fun ls hl => ?_)
        refine lv_goto (tgt := 10) X.1 X.2.1 dX8_copy_33 (by decide) ?_
        exact ih_10 (i + 1) ((ua T.1 (16 + w) i (T.1 (16 + v) i)), T.2) (by omega) (by omega) (h2) (by show ua T.1 _ _ _ _ _ = _; rw [ua_at, if_neg (by omega)]; exact h8) (fun j h1 h3 => if hj : j = i then (by show ua T.1 _ _ _ _ _ = _; rw [ua_at, if_pos ⟨rfl, hj⟩, hj]; exact hf _ _ (by omega) (by omega)) else (by show ua T.1 _ _ _ _ _ = _; rw [ua_at, if_neg (fun q => hj q.2)]; exact hl2 j h1 (by omega))) (fun c_ j h1 h3 => by show ua T.1 _ _ _ _ _ = _; rw [ua_at, if_neg (fun q => h1 q.1)]; exact hf c_ j h1 h3) _ _ I ls (lv_sub hl [1, 2, 0] rfl)
  exact lp_10 (7) 0 ((ua S.1 8 (w : Int) (S.1 8 (v : Int))), S.2) (by omega) (by omega) (rfl) (by simp [ua_at]) (fun j h1 h2 => absurd h2 (by omega)) (fun c_ j h1 h2 => by show ua S.1 8 _ _ c_ j = _; rw [ua_at, if_neg h2]) _ _ I ls (lv_sub hl [1, 2, 0] rfl)

theorem ok_X8_code : yX8_code.cls ≠ "java/lang/invoke/MethodHandle" ∧ yX8_code.cls ≠ "java/lang/invoke/VarHandle" ∧ (parseMethodDescriptor yX8_code.desc).map (fun d => d.parameters.length) = some 0 := ⟨by decide +kernel, by decide +kernel, by decide +kernel⟩
abbrev po_X8_code (S : St) (w : Nat) (m_ : Int) (f : Int → Int) : Int → St → Prop := fun r S1 => r = cdv f m_.toNat ∧ S1 = S
abbrev rm_X8_code : Room := ({ frames := 2, cells := 0, slots := 0, locals := 40 } : Room)
set_option maxRecDepth 100000 in
set_option maxHeartbeats 4000000 in
theorem k_X8_code (l : Launch) (G : Ge) (S : St) (w : Nat) (m_ : Int) (f : Int → Int) (e_m_ : S.1 8 (w : Int) = m_) (e_f : ∀ i : Int, S.1 (16 + w) i = f i) (hw : w < 4) (hz : 0 ≤ m_ ∧ m_ ≤ 6) (hL : ∀ i : Int, 0 ≤ i → i < m_ → ((97 ≤ f i ∧ f i ≤ 122) ∨ (65 ≤ f i ∧ f i ≤ 90))) : Kl (KC G) l yX8_code cX8_code 5 rm_X8_code [.ref (G.2.2 (6 + 2 * w))] S (po_X8_code S w m_ f) := by
  refine K_start (own := "NameSeeker$Word") (by decide +kernel) rfl (Nat.le_of_ble_eq_true rfl) ?_
  intro p e s m args below meth c X hr hlk I ls hl
  have hl : lv_has ls 5 [(0, .ref (G.2.2 (6 + 2 * w)))] := hl
  refine lv_lconst (v := lI 0) X.1 X.2.1 dX8_code_0 rfl ?_
  refine lv_lstore_n (lv' := [(1, .long (lI 0)), (0, .ref (G.2.2 (6 + 2 * w)))]) X.1 X.2.1 dX8_code_1 rfl hl (by decide) rfl (fun ls hl => ?_)
  refine ri_const X (v := 0) dX8_code_2 ?_
  refine lv_istore_n (lv' := [(3, .int (iI 0)), (1, .long (lI 0)), (0, .ref (G.2.2 (6 + 2 * w)))]) X.1 X.2.1 dX8_code_3 rfl hl (by decide) rfl (fun ls hl => ?_)
  have lp_4 : ∀ (n_ : Nat) (i : Int), (6 - i).toNat < n_ → ∀ (hi : 0 ≤ i ∧ i ≤ m_) (H : Heap) (locs : List Loc), In (KC G) s s.heap H locs S → ∀ ls : Array Slot, lv_has ls 5 [(0, .ref (G.2.2 (6 + 2 * w))), (1, .long (lI (cdv f i.toNat))), (3, .int (iI i))] → W p l e rm_X8_code s m args below meth c H locs 0 0 (MQ below (QL (KC G) (po_X8_code S w m_ f)) args s 0 0 (KC G).2.2.2) (F0 m 4 ls []) := by
    intro n_
    induction n_ with
    | zero => intro i hm; exact absurd hm (by omega)
    | succ n_ ih_4 =>
      intro i hm_4 hi H locs I ls hl
      refine lv_iload_n X.1 X.2.1 dX8_code_4 rfl (lv_at hl 2 rfl) ?_
      refine lv_aload_n X.1 X.2.1 dX8_code_5 rfl (lv_at hl 0 rfl) ?_
      refine gC_word_size X I (w := w) hw (v := m_) e_m_ tb_140 dX8_code_6 ?_
      refine rj_ge (tgt := 61) X (by omega) (by omega) dX8_code_9 (by decide) (fun c1 => ?_) (fun c1 => ?_)
      · skip
        refine lv_lload_n X.1 X.2.1 dX8_code_61 rfl (lv_at hl 1 rfl) ?_
        exact rt_l X hr hlk I (by first | (refine ⟨?_, rfl⟩; rw [show m_ = i by omega]; done) | (exfalso; omega)) dX8_code_62
      · skip
        have hLi := hL i (by omega) (by omega)
        refine lv_aload_n X.1 X.2.1 dX8_code_12 rfl (lv_at hl 0 rfl) ?_
        refine gC_word_letters X I (w := w) hw tb_137 dX8_code_13 ?_
        refine lv_iload_n X.1 X.2.1 dX8_code_16 rfl (lv_at hl 2 rfl) ?_
        refine aC_word X I (w := w) hw (v := (f i)) (e_f i) (by omega) dX8_code_17 ?_
        refine cl_i I (runSN (As := [.int (iI (f i))]) (rest := []) X (k_X9_isGreat l G S  (f i)  (by omega)) (gdC tb_336 gdB) (I.2.2.2.2 _ (List.mem_of_getElem? (i := 5) rfl)) tb_335 tb_14 ⟨ok_X9_isGreat, ⟨Nat.le_of_ble_eq_true rfl, Nat.le_of_ble_eq_true rfl⟩, rfl, rfl⟩ (PreS.of I) rfl hl.1 rfl (Nat.le_of_ble_eq_true rfl) dX8_code_18 ⟨Nat.zero_le _, Nat.zero_le _⟩) (fun r2 S3 H locs q4 I => ?_)
        obtain ⟨e1_, e2_⟩ := q4
        rw [e2_] at I
        rw [e1_]
        clear e1_ e2_
        rcases Decidable.em ((65 ≤ ((f i)) ∧ ((f i)) ≤ 90)) with b5 | b5
        · rw [bI_t b5]
          refine rz_eq (tgt := 29) X (by omega) dX8_code_21 (by decide) (fun c6 => absurd c6 (by decide)) (fun _ => ?_)
          refine ri_push X (v := 26) (by decide) dX8_code_24 ?_
          refine lv_goto (tgt := 30) X.1 X.2.1 dX8_code_26 (by decide) ?_
          refine lv_istore (lv' := [(4, .int (iI 26)), (0, .ref (G.2.2 (6 + 2 * w))), (1, .long (lI (cdv f i.toNat))), (3, .int (iI i))]) X.1 X.2.1 dX8_code_30 hl (by decide) rfl (fun ls hl => ?_)
          refine ri_ldc2 X (v := 53) tb_479 rfl dX8_code_32 ?_
          refine lv_lload_n X.1 X.2.1 dX8_code_35 rfl (lv_at hl 2 rfl) ?_
          refine ri_lmul X (v := (53 * (cdv f i.toNat))) rfl dX8_code_36 ?_
          refine lv_iload X.1 X.2.1 dX8_code_37 (lv_at hl 0 rfl) ?_
          refine ri_i2l X (by omega) dX8_code_39 ?_
          refine ri_ladd X (v := ((53 * (cdv f i.toNat)) + 26)) rfl dX8_code_40 ?_
          refine lv_aload_n X.1 X.2.1 dX8_code_41 rfl (lv_at hl 1 rfl) ?_
          refine gC_word_letters X I (w := w) hw tb_137 dX8_code_42 ?_
          refine lv_iload_n X.1 X.2.1 dX8_code_45 rfl (lv_at hl 3 rfl) ?_
          refine aC_word X I (w := w) hw (v := (f i)) (e_f i) (by omega) dX8_code_46 ?_
          refine cl_i I (runSN (As := [.int (iI (f i))]) (rest := [.long (lI ((53 * (cdv f i.toNat)) + 26))]) X (k_X9_letterNumber l G S  (f i)  (by omega)) (gdC tb_350 gdB) (I.2.2.2.2 _ (List.mem_of_getElem? (i := 6) rfl)) tb_349 tb_14 ⟨ok_X9_letterNumber, ⟨Nat.le_of_ble_eq_true rfl, Nat.le_of_ble_eq_true rfl⟩, rfl, rfl⟩ (PreS.of I) rfl hl.1 rfl (Nat.le_of_ble_eq_true rfl) dX8_code_47 ⟨Nat.zero_le _, Nat.zero_le _⟩) (fun r7 S8 H locs q9 I => ?_)
          obtain ⟨e1_, e2_⟩ := q9
          rw [e2_] at I
          rw [e1_]
          clear e1_ e2_
          have hnr := lnum_r (f i) (by omega)
          refine ri_i2l X (by omega) dX8_code_50 ?_
          refine ri_ladd X (v := (((53 * (cdv f i.toNat)) + 26) + (lnum (f i)))) rfl dX8_code_51 ?_
          refine lv_lconst (v := lI 1) X.1 X.2.1 dX8_code_52 rfl ?_
          refine ri_ladd X (v := ((((53 * (cdv f i.toNat)) + 26) + (lnum (f i))) + 1)) rfl dX8_code_53 ?_
          refine lv_lstore_n (lv' := [(1, .long (lI ((((53 * (cdv f i.toNat)) + 26) + (lnum (f i))) + 1))), (4, .int (iI 26)), (0, .ref (G.2.2 (6 + 2 * w))), (3, .int (iI i))]) X.1 X.2.1 dX8_code_54 rfl hl (by decide) rfl (fun ls hl => ?_)
          refine ri_iinc X (k := 3) (v := (i + 1)) (lv' := [(3, .int (iI (i + 1))), (1, .long (lI ((((53 * (cdv f i.toNat)) + 26) + (lnum (f i))) + 1))), (4, .int (iI 26)), (0, .ref (G.2.2 (6 + 2 * w)))]) rfl dX8_code_55 hl rfl (by decide) rfl (fun ls hl => ?_)
          refine lv_goto (tgt := 4) X.1 X.2.1 dX8_code_58 (by decide) ?_
          have hl : lv_has ls 5 [(3, .int (iI (i + 1))), (1, .long (lI (cdv f (i + 1).toNat))), (4, .int (iI 26)), (0, .ref (G.2.2 (6 + 2 * w)))] := by
            have e_ : ((((53 * (cdv f i.toNat)) + 26) + (lnum (f i))) + 1) = (cdv f (i + 1).toNat) := by first | exact cdv_s0 (by omega) (by omega) | exact cdv_s (by omega) (by omega)
            rw [← e_]; exact hl
          exact ih_4 (i + 1) (by omega) (by omega) _ _ I ls (lv_sub hl [3, 1, 0] rfl)
        · rw [bI_f b5]
          refine rz_eq (tgt := 29) X (by omega) dX8_code_21 (by decide) (fun _ => ?_) (fun c10 => absurd c10 (fun q => q (by decide)))
          refine ri_const X (v := 0) dX8_code_29 ?_
          refine lv_istore (lv' := [(4, .int (iI 0)), (0, .ref (G.2.2 (6 + 2 * w))), (1, .long (lI (cdv f i.toNat))), (3, .int (iI i))]) X.1 X.2.1 dX8_code_30 hl (by decide) rfl (fun ls hl => ?_)
          refine ri_ldc2 X (v := 53) tb_479 rfl dX8_code_32 ?_
          refine lv_lload_n X.1 X.2.1 dX8_code_35 rfl (lv_at hl 2 rfl) ?_
          refine ri_lmul X (v := (53 * (cdv f i.toNat))) rfl dX8_code_36 ?_
          refine lv_iload X.1 X.2.1 dX8_code_37 (lv_at hl 0 rfl) ?_
          refine ri_i2l X (by omega) dX8_code_39 ?_
          refine ri_ladd X (v := (53 * (cdv f i.toNat))) (by omega) dX8_code_40 ?_
          refine lv_aload_n X.1 X.2.1 dX8_code_41 rfl (lv_at hl 1 rfl) ?_
          refine gC_word_letters X I (w := w) hw tb_137 dX8_code_42 ?_
          refine lv_iload_n X.1 X.2.1 dX8_code_45 rfl (lv_at hl 3 rfl) ?_
          refine aC_word X I (w := w) hw (v := (f i)) (e_f i) (by omega) dX8_code_46 ?_
          refine cl_i I (runSN (As := [.int (iI (f i))]) (rest := [.long (lI (53 * (cdv f i.toNat)))]) X (k_X9_letterNumber l G S  (f i)  (by omega)) (gdC tb_350 gdB) (I.2.2.2.2 _ (List.mem_of_getElem? (i := 6) rfl)) tb_349 tb_14 ⟨ok_X9_letterNumber, ⟨Nat.le_of_ble_eq_true rfl, Nat.le_of_ble_eq_true rfl⟩, rfl, rfl⟩ (PreS.of I) rfl hl.1 rfl (Nat.le_of_ble_eq_true rfl) dX8_code_47 ⟨Nat.zero_le _, Nat.zero_le _⟩) (fun r11 S12 H locs q13 I => ?_)
          obtain ⟨e1_, e2_⟩ := q13
          rw [e2_] at I
          rw [e1_]
          clear e1_ e2_
          have hnr := lnum_r (f i) (by omega)
          refine ri_i2l X (by omega) dX8_code_50 ?_
          refine ri_ladd X (v := ((53 * (cdv f i.toNat)) + (lnum (f i)))) rfl dX8_code_51 ?_
          refine lv_lconst (v := lI 1) X.1 X.2.1 dX8_code_52 rfl ?_
          refine ri_ladd X (v := (((53 * (cdv f i.toNat)) + (lnum (f i))) + 1)) rfl dX8_code_53 ?_
          refine lv_lstore_n (lv' := [(1, .long (lI (((53 * (cdv f i.toNat)) + (lnum (f i))) + 1))), (4, .int (iI 0)), (0, .ref (G.2.2 (6 + 2 * w))), (3, .int (iI i))]) X.1 X.2.1 dX8_code_54 rfl hl (by decide) rfl (fun ls hl => ?_)
          refine ri_iinc X (k := 3) (v := (i + 1)) (lv' := [(3, .int (iI (i + 1))), (1, .long (lI (((53 * (cdv f i.toNat)) + (lnum (f i))) + 1))), (4, .int (iI 0)), (0, .ref (G.2.2 (6 + 2 * w)))]) rfl dX8_code_55 hl rfl (by decide) rfl (fun ls hl => ?_)
          refine lv_goto (tgt := 4) X.1 X.2.1 dX8_code_58 (by decide) ?_
          have hl : lv_has ls 5 [(3, .int (iI (i + 1))), (1, .long (lI (cdv f (i + 1).toNat))), (4, .int (iI 0)), (0, .ref (G.2.2 (6 + 2 * w)))] := by
            have e_ : (((53 * (cdv f i.toNat)) + (lnum (f i))) + 1) = (cdv f (i + 1).toNat) := by first | exact cdv_s0 (by omega) (by omega) | exact cdv_s (by omega) (by omega)
            rw [← e_]; exact hl
          exact ih_4 (i + 1) (by omega) (by omega) _ _ I ls (lv_sub hl [3, 1, 0] rfl)
  have hl : lv_has ls 5 [(3, .int (iI 0)), (1, .long (lI (cdv f (0 : Int).toNat))), (0, .ref (G.2.2 (6 + 2 * w)))] := by
    have e_ : 0 = (cdv f (0 : Int).toNat) := rfl
    rw [← e_]; exact hl
  exact lp_4 (7) 0 (by omega) (by omega) _ _ I ls (lv_sub hl [2, 1, 0] rfl)

theorem ok_X8_letterBits : yX8_letterBits.cls ≠ "java/lang/invoke/MethodHandle" ∧ yX8_letterBits.cls ≠ "java/lang/invoke/VarHandle" ∧ (parseMethodDescriptor yX8_letterBits.desc).map (fun d => d.parameters.length) = some 0 := ⟨by decide +kernel, by decide +kernel, by decide +kernel⟩
abbrev po_X8_letterBits (S : St) (w : Nat) (m_ : Int) (f : Int → Int) : Int → St → Prop := fun r S1 => r = wlb f m_.toNat ∧ S1 = S
abbrev rm_X8_letterBits : Room := ({ frames := 2, cells := 0, slots := 0, locals := 40 } : Room)
set_option maxRecDepth 100000 in
set_option maxHeartbeats 4000000 in
theorem k_X8_letterBits (l : Launch) (G : Ge) (S : St) (w : Nat) (m_ : Int) (f : Int → Int) (e_m_ : S.1 8 (w : Int) = m_) (e_f : ∀ i : Int, S.1 (16 + w) i = f i) (hw : w < 4) (hz : 0 ≤ m_ ∧ m_ ≤ 6) (hL : ∀ i : Int, 0 ≤ i → i < m_ → ((97 ≤ f i ∧ f i ≤ 122) ∨ (65 ≤ f i ∧ f i ≤ 90))) : Ki (KC G) l yX8_letterBits cX8_letterBits 3 .int rm_X8_letterBits [.ref (G.2.2 (6 + 2 * w))] S (po_X8_letterBits S w m_ f) := by
  refine K_start (own := "NameSeeker$Word") (by decide +kernel) rfl (Nat.le_of_ble_eq_true rfl) ?_
  intro p e s m args below meth c X hr hlk I ls hl
  have hl : lv_has ls 3 [(0, .ref (G.2.2 (6 + 2 * w)))] := hl
  refine ri_const X (v := 0) dX8_letterBits_0 ?_
  refine lv_istore_n (lv' := [(1, .int (iI 0)), (0, .ref (G.2.2 (6 + 2 * w)))]) X.1 X.2.1 dX8_letterBits_1 rfl hl (by decide) rfl (fun ls hl => ?_)
  refine ri_const X (v := 0) dX8_letterBits_2 ?_
  refine lv_istore_n (lv' := [(2, .int (iI 0)), (1, .int (iI 0)), (0, .ref (G.2.2 (6 + 2 * w)))]) X.1 X.2.1 dX8_letterBits_3 rfl hl (by decide) rfl (fun ls hl => ?_)
  have lp_4 : ∀ (n_ : Nat) (i : Int), (6 - i).toNat < n_ → ∀ (hi : 0 ≤ i ∧ i ≤ m_) (H : Heap) (locs : List Loc), In (KC G) s s.heap H locs S → ∀ ls : Array Slot, lv_has ls 3 [(0, .ref (G.2.2 (6 + 2 * w))), (1, .int (iI (wlb f i.toNat))), (2, .int (iI i))] → W p l e rm_X8_letterBits s m args below meth c H locs 0 0 (MQ below (QI (KC G) (po_X8_letterBits S w m_ f)) args s 0 0 (KC G).2.2.2) (F0 m 4 ls []) := by
    intro n_
    induction n_ with
    | zero => intro i hm; exact absurd hm (by omega)
    | succ n_ ih_4 =>
      intro i hm_4 hi H locs I ls hl
      refine lv_iload_n X.1 X.2.1 dX8_letterBits_4 rfl (lv_at hl 2 rfl) ?_
      refine lv_aload_n X.1 X.2.1 dX8_letterBits_5 rfl (lv_at hl 0 rfl) ?_
      refine gC_word_size X I (w := w) hw (v := m_) e_m_ tb_140 dX8_letterBits_6 ?_
      refine rj_ge (tgt := 32) X (by omega) (by omega) dX8_letterBits_9 (by decide) (fun c1 => ?_) (fun c1 => ?_)
      · skip
        refine lv_iload_n X.1 X.2.1 dX8_letterBits_32 rfl (lv_at hl 1 rfl) ?_
        exact rt_i X hr hlk I rfl (by first | (refine ⟨?_, rfl⟩; rw [show m_ = i by omega]; done) | (exfalso; omega)) dX8_letterBits_33
      · skip
        have hLi := hL i (by omega) (by omega)
        have hbr := wlb_r f i.toNat (fun j h1 h2 => hL j h1 (by omega))
        refine lv_iload_n X.1 X.2.1 dX8_letterBits_12 rfl (lv_at hl 1 rfl) ?_
        refine ri_const X (v := 1) dX8_letterBits_13 ?_
        refine lv_aload_n X.1 X.2.1 dX8_letterBits_14 rfl (lv_at hl 0 rfl) ?_
        refine gC_word_letters X I (w := w) hw tb_137 dX8_letterBits_15 ?_
        refine lv_iload_n X.1 X.2.1 dX8_letterBits_18 rfl (lv_at hl 2 rfl) ?_
        refine aC_word X I (w := w) hw (v := (f i)) (e_f i) (by omega) dX8_letterBits_19 ?_
        refine cl_i I (runSN (As := [.int (iI (f i))]) (rest := [.int (iI 1), .int (iI (wlb f i.toNat))]) X (k_X9_letterNumber l G S  (f i)  (by omega)) (gdC tb_350 gdB) (I.2.2.2.2 _ (List.mem_of_getElem? (i := 6) rfl)) tb_349 tb_14 ⟨ok_X9_letterNumber, ⟨Nat.le_of_ble_eq_true rfl, Nat.le_of_ble_eq_true rfl⟩, rfl, rfl⟩ (PreS.of I) rfl hl.1 rfl (Nat.le_of_ble_eq_true rfl) dX8_letterBits_20 ⟨Nat.zero_le _, Nat.zero_le _⟩) (fun r2 S3 H locs q4 I => ?_)
        obtain ⟨e1_, e2_⟩ := q4
        rw [e2_] at I
        rw [e1_]
        clear e1_ e2_
        have hnr := lnum_r (f i) (by omega)
        have hn2 := lnum_l (f i) hLi
        refine ri_shl X (by omega) dX8_letterBits_23 ?_
        have t5 := pw_r (k := (lnum (f i))) (by omega)
        refine ri_or X (by omega) (by omega) dX8_letterBits_24 ?_
        have t6 := bor_r (a := (wlb f i.toNat)) (b := (pw (lnum (f i)))) (by omega) (by omega)
        refine lv_istore_n (lv' := [(1, .int (iI (bor (wlb f i.toNat) (pw (lnum (f i)))))), (0, .ref (G.2.2 (6 + 2 * w))), (2, .int (iI i))]) X.1 X.2.1 dX8_letterBits_25 rfl hl (by decide) rfl (fun ls hl => ?_)
        refine ri_iinc X (k := 2) (v := (i + 1)) (lv' := [(2, .int (iI (i + 1))), (1, .int (iI (bor (wlb f i.toNat) (pw (lnum (f i)))))), (0, .ref (G.2.2 (6 + 2 * w)))]) rfl dX8_letterBits_26 hl rfl (by decide) rfl (fun ls hl => ?_)
        refine lv_goto (tgt := 4) X.1 X.2.1 dX8_letterBits_29 (by decide) ?_
        have hl : lv_has ls 3 [(2, .int (iI (i + 1))), (1, .int (iI (wlb f (i + 1).toNat))), (0, .ref (G.2.2 (6 + 2 * w)))] := by
          have e_ : (bor (wlb f i.toNat) (pw (lnum (f i)))) = (wlb f (i + 1).toNat) := wlb_s (by omega)
          rw [← e_]; exact hl
        exact ih_4 (i + 1) (by omega) (by omega) _ _ I ls (lv_sub hl [2, 1, 0] rfl)
  have hl : lv_has ls 3 [(2, .int (iI 0)), (1, .int (iI (wlb f (0 : Int).toNat))), (0, .ref (G.2.2 (6 + 2 * w)))] := by
    have e_ : 0 = (wlb f (0 : Int).toNat) := rfl
    rw [← e_]; exact hl
  exact lp_4 (7) 0 (by omega) (by omega) _ _ I ls (lv_sub hl [2, 1, 0] rfl)
