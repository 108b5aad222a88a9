/-! small words of both sides -/
def lnum (x : Int) : Int := if 97 ≤ x ∧ x ≤ 122 then x - 97 else x - 65
/-- the letter at a place of the text; 0 where none stands -/
def txat (S : St) (x : Int) : Int := if 0 ≤ x ∧ x < S.1 50 0 then S.1 0 x else 0
theorem ch_of {v : Int} (h : 32 ≤ v ∧ v ≤ 126) : narrow .char (.int (iI v)) = .int (iI v) := (iI_char (by omega) (by omega)).1
theorem txat_r {S : St} (ht : 0 ≤ S.1 50 0 ∧ S.1 50 0 ≤ 200) (hc : ∀ i : Int, 0 ≤ i → i < S.1 50 0 → 32 ≤ S.1 0 i ∧ S.1 0 i ≤ 126) (x : Int) : 0 ≤ txat S x ∧ txat S x ≤ 126 ∧ (S.1 50 0 ≤ x → txat S x = 0) := by
  unfold txat
  by_cases h : 0 ≤ x ∧ x < S.1 50 0
  · rw [if_pos h]
    have := hc x h.1 h.2
    omega
  · rw [if_neg h]
    omega
/-- how many signs stand from a place on, so many at most -/
def sgc (f : Int → Int) (p : Int) : Nat → Int
  | 0 => 0
  | n + 1 => if ((97 ≤ f p ∧ f p ≤ 122) ∨ (65 ≤ f p ∧ f p ≤ 90) ∨ f p = 95) then 1 + sgc f (p + 1) n else 0
theorem sgc_yes {f : Int → Int} {p : Int} {n : Nat} (h : (97 ≤ f p ∧ f p ≤ 122) ∨ (65 ≤ f p ∧ f p ≤ 90) ∨ f p = 95) (hn : 0 < n) : sgc f p n = 1 + sgc f (p + 1) (n - 1) := by
  cases n with
  | zero => exact absurd hn (Nat.lt_irrefl 0)
  | succ n => rw [sgc, if_pos h]; rfl
theorem sgc_no {f : Int → Int} {p : Int} (n : Nat) (h : ¬ ((97 ≤ f p ∧ f p ≤ 122) ∨ (65 ≤ f p ∧ f p ≤ 90) ∨ f p = 95)) : sgc f p n = 0 := by
  cases n with
  | zero => rfl
  | succ n => rw [sgc, if_neg h]
theorem sgc_r (f : Int → Int) : ∀ (n : Nat) (p : Int), 0 ≤ sgc f p n ∧ sgc f p n ≤ n
  | 0, p => by rw [sgc]; omega
  | n + 1, p => by
    have := sgc_r f n (p + 1)
    rw [sgc]
    split <;> omega
/-- the place behind the name that is told there; -1 if none is -/
def bNam (f : Int → Int) (x : Int) : Int := if (48 ≤ f (x + 1) ∧ f (x + 1) ≤ 48 + 3) ∧ f (x + 2) = 44 ∧ 1 ≤ sgc f (x + 3) 13 ∧ sgc f (x + 3) 13 ≤ 12 ∧ f ((x + 3) + sgc f (x + 3) 13) = 59 then (x + 4) + sgc f (x + 3) 13 else -1
def bWor (f : Int → Int) (x : Int) : Int := if (48 ≤ f (x + 1) ∧ f (x + 1) ≤ 48 + 9) ∧ f (x + 2) = 44 ∧ (48 ≤ f (x + 3) ∧ f (x + 3) ≤ 48 + 9) ∧ f (x + 4) = 44 ∧ (48 ≤ f (x + 5) ∧ f (x + 5) ≤ 48 + 9) ∧ f (x + 6) = 59 then x + 7 else -1
def bItm (f : Int → Int) (x : Int) : Int := if f x = 115 then bNam f x else if f x = 119 then bWor f x else -1
theorem bItm_r {S : St} (ht : 0 ≤ S.1 50 0 ∧ S.1 50 0 ≤ 200) (x : Int) : bItm (txat S) x = -1 ∨ (x + 4 < bItm (txat S) x ∧ bItm (txat S) x ≤ S.1 50 0) := by
  have key : ∀ y : Int, txat S y = 59 → y < S.1 50 0 := fun y h => by
    unfold txat at h
    by_cases q : 0 ≤ y ∧ y < S.1 50 0
    · exact q.2
    · rw [if_neg q] at h; omega
  have h1 := sgc_r (txat S) 13 (x + 3)
  unfold bItm
  split
  · unfold bNam
    split
    · rename_i h
      have := key _ h.2.2.2.2
      omega
    · exact Or.inl rfl
  · split
    · unfold bWor
      split
      · rename_i h
        have := key _ h.2.2.2.2.2
        omega
      · exact Or.inl rfl
    · exact Or.inl rfl
theorem bNam_r {S : St} (ht : 0 ≤ S.1 50 0 ∧ S.1 50 0 ≤ 200) (x : Int) : bNam (txat S) x = -1 ∨ (x + 4 < bNam (txat S) x ∧ bNam (txat S) x ≤ S.1 50 0) := by
  have key : ∀ y : Int, txat S y = 59 → y < S.1 50 0 := fun y h => by
    unfold txat at h
    by_cases q : 0 ≤ y ∧ y < S.1 50 0
    · exact q.2
    · rw [if_neg q] at h; omega
  have h1 := sgc_r (txat S) 13 (x + 3)
  unfold bNam
  split
  · rename_i h
    have := key _ h.2.2.2.2
    omega
  · exact Or.inl rfl
/-- the first item that is not so: where it begins; -4 if all are -/
def flt (f : Int → Int) (len : Int) : Nat → Int → Int → Int
  | 0, _, _ => -4
  | k + 1, a, n => if a < len then (if bItm f a = -1 ∨ 8 < (if f a = 115 then n + 1 else n) then a else flt f len k (bItm f a) (if f a = 115 then n + 1 else n)) else -4
theorem flt_end {f : Int → Int} {len : Int} {k : Nat} {a n : Int} (h : k = 0 ∨ len ≤ a) : flt f len k a n = -4 := by
  cases k with
  | zero => rfl
  | succ k => rw [flt, if_neg (by omega)]
theorem flt_bad {f : Int → Int} {len : Int} {k : Nat} {a n : Int} (hk : 0 < k) (ha : a < len) (h : bItm f a = -1 ∨ (f a = 115 ∧ 8 < n + 1) ∨ (f a ≠ 115 ∧ 8 < n)) : flt f len k a n = a := by
  cases k with
  | zero => exact absurd hk (Nat.lt_irrefl 0)
  | succ k =>
    rw [flt, if_pos ha, if_pos]
    split <;> omega
theorem flt_go {f : Int → Int} {len : Int} {i : Int} {a n n2 : Int} (hi : 0 ≤ i ∧ i < 200 ∧ a < len) (h1 : bItm f a ≠ -1) (h2 : n2 ≤ 8 ∧ ((f a = 115 ∧ n2 = n + 1) ∨ (f a ≠ 115 ∧ n2 = n))) : flt f len (200 - i).toNat a n = flt f len (200 - (i + 1)).toNat (bItm f a) n2 := by
  rw [show (200 - i).toNat = (200 - (i + 1)).toNat + 1 by omega, flt, if_pos hi.2.2]
  have e : (if f a = 115 then n + 1 else n) = n2 := by split <;> omega
  rw [e, if_neg (by omega)]
theorem flt_r {f : Int → Int} {len : Int} (ht : 0 ≤ len ∧ len ≤ 200) : ∀ (k : Nat) (a n : Int), 0 ≤ a → True := fun _ _ _ _ => trivial
/-- whether an s stands ahead of a place -/
def hasS (f : Int → Int) : Nat → Bool
  | 0 => false
  | n + 1 => hasS f n || decide (f n = 115)
theorem hasS_no {f : Int → Int} {k : Int} (h0 : 0 ≤ k) (h : hasS f k.toNat = false) (hk : f k ≠ 115) : hasS f (k + 1).toNat = false := by
  rw [show (k + 1).toNat = k.toNat + 1 by omega, hasS, h, show ((k.toNat : Nat) : Int) = k by omega]
  simpa using hk
theorem hasS_mono {f : Int → Int} : ∀ (n m : Nat), n ≤ m → hasS f n = true → hasS f m = true
  | n, 0, h, q => by rw [show n = 0 by omega] at q; exact q
  | n, m + 1, h, q => by
    rcases Nat.lt_or_ge m n with z | z
    · rw [show n = m + 1 by omega] at q; exact q
    · rw [hasS, hasS_mono n m z q]; rfl
theorem hasS_of {f : Int → Int} {k len : Int} (h : 0 ≤ k ∧ k < len) (hk : f k = 115) : hasS f len.toNat = true := by
  refine hasS_mono (k.toNat + 1) len.toNat (by omega) ?_
  rw [hasS, show ((k.toNat : Nat) : Int) = k by omega, hk]
  simp

theorem ok_X9_isSmall : yX9_isSmall.cls ≠ "java/lang/invoke/MethodHandle" ∧ yX9_isSmall.cls ≠ "java/lang/invoke/VarHandle" ∧ (parseMethodDescriptor yX9_isSmall.desc).map (fun d => d.parameters.length) = some 1 := ⟨by decide +kernel, by decide +kernel, by decide +kernel⟩
abbrev po_X9_isSmall (S : St)  (x : Int) : Int → St → Prop := fun r S1 => r = bI (97 ≤ x ∧ x ≤ 122) ∧ S1 = S
abbrev rm_X9_isSmall : Room := ({ frames := 0, cells := 0, slots := 0, locals := 0 } : Room)
set_option maxRecDepth 100000 in
set_option maxHeartbeats 4000000 in
theorem k_X9_isSmall (l : Launch) (G : Ge) (S : St)  (x : Int) (hx : -2147483648 ≤ x ∧ x < 2147483648) : Ki (KC G) l yX9_isSmall cX9_isSmall 1 .boolean rm_X9_isSmall [.int (iI x)] S (po_X9_isSmall S x) := by
  refine K_start (own := "NameSeeker") (by decide +kernel) rfl (Nat.le_of_ble_eq_true rfl) ?_
  intro p e s m args below meth c X hr hlk I ls hl
  have hl : lv_has ls 1 [(0, .int (iI x))] := hl
  refine lv_iload_n X.1 X.2.1 dX9_isSmall_0 rfl (lv_at hl 0 rfl) ?_
  refine ri_push X (v := 97) (by decide) dX9_isSmall_1 ?_
  refine rj_lt (tgt := 16) X (by omega) (by omega) dX9_isSmall_3 (by decide) (fun c1 => ?_) (fun c1 => ?_)
  · skip
    refine ri_const X (v := 0) dX9_isSmall_16 ?_
    exact rt_i X hr hlk I (by rfl) (by first | (exfalso; omega) | exact (⟨(bI_f (by omega)).symm, rfl⟩)) dX9_isSmall_17
  · skip
    refine lv_iload_n X.1 X.2.1 dX9_isSmall_6 rfl (lv_at hl 0 rfl) ?_
    refine ri_push X (v := 122) (by decide) dX9_isSmall_7 ?_
    refine rj_gt (tgt := 16) X (by omega) (by omega) dX9_isSmall_9 (by decide) (fun c2 => ?_) (fun c2 => ?_)
    · skip
      refine ri_const X (v := 0) dX9_isSmall_16 ?_
      exact rt_i X hr hlk I (by rfl) (by first | (exfalso; omega) | exact (⟨(bI_f (by omega)).symm, rfl⟩)) dX9_isSmall_17
    · skip
      refine ri_const X (v := 1) dX9_isSmall_12 ?_
      refine lv_goto (tgt := 17) X.1 X.2.1 dX9_isSmall_13 (by decide) ?_
      exact rt_i X hr hlk I (by rfl) (by first | (exfalso; omega) | exact (⟨(bI_t (by omega)).symm, rfl⟩)) dX9_isSmall_17

theorem ok_X9_isGreat : yX9_isGreat.cls ≠ "java/lang/invoke/MethodHandle" ∧ yX9_isGreat.cls ≠ "java/lang/invoke/VarHandle" ∧ (parseMethodDescriptor yX9_isGreat.desc).map (fun d => d.parameters.length) = some 1 := ⟨by decide +kernel, by decide +kernel, by decide +kernel⟩
abbrev po_X9_isGreat (S : St)  (x : Int) : Int → St → Prop := fun r S1 => r = bI (65 ≤ x ∧ x ≤ 90) ∧ S1 = S
abbrev rm_X9_isGreat : Room := ({ frames := 0, cells := 0, slots := 0, locals := 0 } : Room)
set_option maxRecDepth 100000 in
set_option maxHeartbeats 4000000 in
theorem k_X9_isGreat (l : Launch) (G : Ge) (S : St)  (x : Int) (hx : -2147483648 ≤ x ∧ x < 2147483648) : Ki (KC G) l yX9_isGreat cX9_isGreat 1 .boolean rm_X9_isGreat [.int (iI x)] S (po_X9_isGreat S x) := by
  refine K_start (own := "NameSeeker") (by decide +kernel) rfl (Nat.le_of_ble_eq_true rfl) ?_
  intro p e s m args below meth c X hr hlk I ls hl
  have hl : lv_has ls 1 [(0, .int (iI x))] := hl
  refine lv_iload_n X.1 X.2.1 dX9_isGreat_0 rfl (lv_at hl 0 rfl) ?_
  refine ri_push X (v := 65) (by decide) dX9_isGreat_1 ?_
  refine rj_lt (tgt := 16) X (by omega) (by omega) dX9_isGreat_3 (by decide) (fun c1 => ?_) (fun c1 => ?_)
  · skip
    refine ri_const X (v := 0) dX9_isGreat_16 ?_
    exact rt_i X hr hlk I (by rfl) (by first | (exfalso; omega) | exact (⟨(bI_f (by omega)).symm, rfl⟩)) dX9_isGreat_17
  · skip
    refine lv_iload_n X.1 X.2.1 dX9_isGreat_6 rfl (lv_at hl 0 rfl) ?_
    refine ri_push X (v := 90) (by decide) dX9_isGreat_7 ?_
    refine rj_gt (tgt := 16) X (by omega) (by omega) dX9_isGreat_9 (by decide) (fun c2 => ?_) (fun c2 => ?_)
    · skip
      refine ri_const X (v := 0) dX9_isGreat_16 ?_
      exact rt_i X hr hlk I (by rfl) (by first | (exfalso; omega) | exact (⟨(bI_f (by omega)).symm, rfl⟩)) dX9_isGreat_17
    · skip
      refine ri_const X (v := 1) dX9_isGreat_12 ?_
      refine lv_goto (tgt := 17) X.1 X.2.1 dX9_isGreat_13 (by decide) ?_
      exact rt_i X hr hlk I (by rfl) (by first | (exfalso; omega) | exact (⟨(bI_t (by omega)).symm, rfl⟩)) dX9_isGreat_17

theorem ok_X9_isLetter : yX9_isLetter.cls ≠ "java/lang/invoke/MethodHandle" ∧ yX9_isLetter.cls ≠ "java/lang/invoke/VarHandle" ∧ (parseMethodDescriptor yX9_isLetter.desc).map (fun d => d.parameters.length) = some 1 := ⟨by decide +kernel, by decide +kernel, by decide +kernel⟩
abbrev po_X9_isLetter (S : St)  (x : Int) : Int → St → Prop := fun r S1 => r = bI ((97 ≤ x ∧ x ≤ 122) ∨ (65 ≤ x ∧ x ≤ 90)) ∧ S1 = S
abbrev rm_X9_isLetter : Room := ({ frames := 1, cells := 0, slots := 0, locals := 20 } : Room)
set_option maxRecDepth 100000 in
set_option maxHeartbeats 4000000 in
theorem k_X9_isLetter (l : Launch) (G : Ge) (S : St)  (x : Int) (hx : -2147483648 ≤ x ∧ x < 2147483648) : Ki (KC G) l yX9_isLetter cX9_isLetter 1 .boolean rm_X9_isLetter [.int (iI x)] S (po_X9_isLetter S x) := by
  refine K_start (own := "NameSeeker") (by decide +kernel) rfl (Nat.le_of_ble_eq_true rfl) ?_
  intro p e s m args below meth c X hr hlk I ls hl
  have hl : lv_has ls 1 [(0, .int (iI x))] := hl
  refine lv_iload_n X.1 X.2.1 dX9_isLetter_0 rfl (lv_at hl 0 rfl) ?_
  refine cl_i I (runS (As := [.int (iI x)]) (rest := []) X (k_X9_isSmall l G S  x (by omega)) (gdC tb_333 gdB) tb_331 tb_332 tb_14 ⟨ok_X9_isSmall, ⟨Nat.le_of_ble_eq_true rfl, Nat.le_of_ble_eq_true rfl⟩, rfl, rfl⟩ (PreS.of I) rfl hl.1 rfl (Nat.le_of_ble_eq_true rfl) dX9_isLetter_1 ⟨Nat.zero_le _, Nat.zero_le _⟩) (fun r1 S2 H locs q3 I => ?_)
  obtain ⟨e1_, e2_⟩ := q3
  rw [e2_] at I
  rw [e1_]
  clear e1_ e2_
  rcases Decidable.em ((97 ≤ (x) ∧ (x) ≤ 122)) with b4 | b4
  · rw [bI_t b4]
    refine rz_ne (tgt := 14) X (by omega) dX9_isLetter_4 (by decide) (fun _ => ?_) (fun c5 => absurd c5 (by decide))
    refine ri_const X (v := 1) dX9_isLetter_14 ?_
    refine lv_goto (tgt := 19) X.1 X.2.1 dX9_isLetter_15 (by decide) ?_
    exact rt_i X hr hlk I (by rfl) (by first | (exfalso; omega) | exact (⟨(bI_t (by omega)).symm, rfl⟩)) dX9_isLetter_19
  · rw [bI_f b4]
    refine rz_ne (tgt := 14) X (by omega) dX9_isLetter_4 (by decide) (fun c6 => absurd c6 (by decide)) (fun _ => ?_)
    refine lv_iload_n X.1 X.2.1 dX9_isLetter_7 rfl (lv_at hl 0 rfl) ?_
    refine cl_i I (runS (As := [.int (iI x)]) (rest := []) X (k_X9_isGreat l G S  x (by omega)) (gdC tb_336 gdB) tb_334 tb_335 tb_14 ⟨ok_X9_isGreat, ⟨Nat.le_of_ble_eq_true rfl, Nat.le_of_ble_eq_true rfl⟩, rfl, rfl⟩ (PreS.of I) rfl hl.1 rfl (Nat.le_of_ble_eq_true rfl) dX9_isLetter_8 ⟨Nat.zero_le _, Nat.zero_le _⟩) (fun r7 S8 H locs q9 I => ?_)
    obtain ⟨e1_, e2_⟩ := q9
    rw [e2_] at I
    rw [e1_]
    clear e1_ e2_
    rcases Decidable.em ((65 ≤ (x) ∧ (x) ≤ 90)) with b10 | b10
    · rw [bI_t b10]
      refine rz_eq (tgt := 18) X (by omega) dX9_isLetter_11 (by decide) (fun c11 => absurd c11 (by decide)) (fun _ => ?_)
      refine ri_const X (v := 1) dX9_isLetter_14 ?_
      refine lv_goto (tgt := 19) X.1 X.2.1 dX9_isLetter_15 (by decide) ?_
      exact rt_i X hr hlk I (by rfl) (by first | (exfalso; omega) | exact (⟨(bI_t (by omega)).symm, rfl⟩)) dX9_isLetter_19
    · rw [bI_f b10]
      refine rz_eq (tgt := 18) X (by omega) dX9_isLetter_11 (by decide) (fun _ => ?_) (fun c12 => absurd c12 (fun q => q (by decide)))
      refine ri_const X (v := 0) dX9_isLetter_18 ?_
      exact rt_i X hr hlk I (by rfl) (by first | (exfalso; omega) | exact (⟨(bI_f (by omega)).symm, rfl⟩)) dX9_isLetter_19

theorem ok_X9_isSign : yX9_isSign.cls ≠ "java/lang/invoke/MethodHandle" ∧ yX9_isSign.cls ≠ "java/lang/invoke/VarHandle" ∧ (parseMethodDescriptor yX9_isSign.desc).map (fun d => d.parameters.length) = some 1 := ⟨by decide +kernel, by decide +kernel, by decide +kernel⟩
abbrev po_X9_isSign (S : St)  (x : Int) : Int → St → Prop := fun r S1 => r = bI ((97 ≤ x ∧ x ≤ 122) ∨ (65 ≤ x ∧ x ≤ 90) ∨ x = 95) ∧ S1 = S
abbrev rm_X9_isSign : Room := ({ frames := 2, cells := 0, slots := 0, locals := 40 } : Room)
set_option maxRecDepth 100000 in
set_option maxHeartbeats 4000000 in
theorem k_X9_isSign (l : Launch) (G : Ge) (S : St)  (x : Int) (hx : -2147483648 ≤ x ∧ x < 2147483648) : Ki (KC G) l yX9_isSign cX9_isSign 1 .boolean rm_X9_isSign [.int (iI x)] S (po_X9_isSign S x) := by
  refine K_start (own := "NameSeeker") (by decide +kernel) rfl (Nat.le_of_ble_eq_true rfl) ?_
  intro p e s m args below meth c X hr hlk I ls hl
  have hl : lv_has ls 1 [(0, .int (iI x))] := hl
  refine lv_iload_n X.1 X.2.1 dX9_isSign_0 rfl (lv_at hl 0 rfl) ?_
  refine cl_i I (runS (As := [.int (iI x)]) (rest := []) X (k_X9_isLetter l G S  x (by omega)) (gdC tb_330 gdB) tb_328 tb_329 tb_14 ⟨ok_X9_isLetter, ⟨Nat.le_of_ble_eq_true rfl, Nat.le_of_ble_eq_true rfl⟩, rfl, rfl⟩ (PreS.of I) rfl hl.1 rfl (Nat.le_of_ble_eq_true rfl) dX9_isSign_1 ⟨Nat.zero_le _, Nat.zero_le _⟩) (fun r1 S2 H locs q3 I => ?_)
  obtain ⟨e1_, e2_⟩ := q3
  rw [e2_] at I
  rw [e1_]
  clear e1_ e2_
  rcases Decidable.em (((97 ≤ (x) ∧ (x) ≤ 122) ∨ (65 ≤ (x) ∧ (x) ≤ 90))) with b4 | b4
  · rw [bI_t b4]
    refine rz_ne (tgt := 13) X (by omega) dX9_isSign_4 (by decide) (fun _ => ?_) (fun c5 => absurd c5 (by decide))
    refine ri_const X (v := 1) dX9_isSign_13 ?_
    refine lv_goto (tgt := 18) X.1 X.2.1 dX9_isSign_14 (by decide) ?_
    exact rt_i X hr hlk I (by rfl) (by first | (exfalso; omega) | exact (⟨(bI_t (by omega)).symm, rfl⟩)) dX9_isSign_18
  · rw [bI_f b4]
    refine rz_ne (tgt := 13) X (by omega) dX9_isSign_4 (by decide) (fun c6 => absurd c6 (by decide)) (fun _ => ?_)
    refine lv_iload_n X.1 X.2.1 dX9_isSign_7 rfl (lv_at hl 0 rfl) ?_
    refine ri_push X (v := 95) (by decide) dX9_isSign_8 ?_
    refine rj_ne (tgt := 17) X (by omega) (by omega) dX9_isSign_10 (by decide) (fun c7 => ?_) (fun c7 => ?_)
    · skip
      refine ri_const X (v := 0) dX9_isSign_17 ?_
      exact rt_i X hr hlk I (by rfl) (by first | (exfalso; omega) | exact (⟨(bI_f (by omega)).symm, rfl⟩)) dX9_isSign_18
    · skip
      refine ri_const X (v := 1) dX9_isSign_13 ?_
      refine lv_goto (tgt := 18) X.1 X.2.1 dX9_isSign_14 (by decide) ?_
      exact rt_i X hr hlk I (by rfl) (by first | (exfalso; omega) | exact (⟨(bI_t (by omega)).symm, rfl⟩)) dX9_isSign_18

theorem ok_X9_letterNumber : yX9_letterNumber.cls ≠ "java/lang/invoke/MethodHandle" ∧ yX9_letterNumber.cls ≠ "java/lang/invoke/VarHandle" ∧ (parseMethodDescriptor yX9_letterNumber.desc).map (fun d => d.parameters.length) = some 1 := ⟨by decide +kernel, by decide +kernel, by decide +kernel⟩
abbrev po_X9_letterNumber (S : St)  (x : Int) : Int → St → Prop := fun r S1 => r = lnum x ∧ S1 = S
abbrev rm_X9_letterNumber : Room := ({ frames := 1, cells := 0, slots := 0, locals := 20 } : Room)
set_option maxRecDepth 100000 in
set_option maxHeartbeats 4000000 in
theorem k_X9_letterNumber (l : Launch) (G : Ge) (S : St)  (x : Int) (hx : -2147483648 ≤ x ∧ x < 2147483648) : Ki (KC G) l yX9_letterNumber cX9_letterNumber 1 .int rm_X9_letterNumber [.int (iI x)] S (po_X9_letterNumber S x) := by
  refine K_start (own := "NameSeeker") (by decide +kernel) rfl (Nat.le_of_ble_eq_true rfl) ?_
  intro p e s m args below meth c X hr hlk I ls hl
  have hl : lv_has ls 1 [(0, .int (iI x))] := hl
  refine lv_iload_n X.1 X.2.1 dX9_letterNumber_0 rfl (lv_at hl 0 rfl) ?_
  refine cl_i I (runS (As := [.int (iI x)]) (rest := []) X (k_X9_isSmall l G S  x (by omega)) (gdC tb_333 gdB) tb_331 tb_332 tb_14 ⟨ok_X9_isSmall, ⟨Nat.le_of_ble_eq_true rfl, Nat.le_of_ble_eq_true rfl⟩, rfl, rfl⟩ (PreS.of I) rfl hl.1 rfl (Nat.le_of_ble_eq_true rfl) dX9_letterNumber_1 ⟨Nat.zero_le _, Nat.zero_le _⟩) (fun r1 S2 H locs q3 I => ?_)
  obtain ⟨e1_, e2_⟩ := q3
  rw [e2_] at I
  rw [e1_]
  clear e1_ e2_
  rcases Decidable.em ((97 ≤ (x) ∧ (x) ≤ 122)) with b4 | b4
  · rw [bI_t b4]
    refine rz_eq (tgt := 14) X (by omega) dX9_letterNumber_4 (by decide) (fun c5 => absurd c5 (by decide)) (fun _ => ?_)
    refine lv_iload_n X.1 X.2.1 dX9_letterNumber_7 rfl (lv_at hl 0 rfl) ?_
    refine ri_push X (v := 97) (by decide) dX9_letterNumber_8 ?_
    refine ri_sub X (v := (x - 97)) rfl dX9_letterNumber_10 ?_
    refine lv_goto (tgt := 18) X.1 X.2.1 dX9_letterNumber_11 (by decide) ?_
    exact rt_i X hr hlk I rfl (by first | (exfalso; omega) | exact (⟨by unfold lnum; first | rw [if_pos (by omega)] | rw [if_neg (by omega)], rfl⟩)) dX9_letterNumber_18
  · rw [bI_f b4]
    refine rz_eq (tgt := 14) X (by omega) dX9_letterNumber_4 (by decide) (fun _ => ?_) (fun c6 => absurd c6 (fun q => q (by decide)))
    refine lv_iload_n X.1 X.2.1 dX9_letterNumber_14 rfl (lv_at hl 0 rfl) ?_
    refine ri_push X (v := 65) (by decide) dX9_letterNumber_15 ?_
    refine ri_sub X (v := (x - 65)) rfl dX9_letterNumber_17 ?_
    exact rt_i X hr hlk I rfl (by first | (exfalso; omega) | exact (⟨by unfold lnum; first | rw [if_pos (by omega)] | rw [if_neg (by omega)], rfl⟩)) dX9_letterNumber_18

theorem ok_X7_at : yX7_at.cls ≠ "java/lang/invoke/MethodHandle" ∧ yX7_at.cls ≠ "java/lang/invoke/VarHandle" ∧ (parseMethodDescriptor yX7_at.desc).map (fun d => d.parameters.length) = some 1 := ⟨by decide +kernel, by decide +kernel, by decide +kernel⟩
abbrev po_X7_at (S : St)  (x : Int) : Int → St → Prop := fun r S1 => r = txat S x ∧ S1 = S
abbrev rm_X7_at : Room := ({ frames := 0, cells := 0, slots := 0, locals := 0 } : Room)
set_option maxRecDepth 100000 in
set_option maxHeartbeats 4000000 in
theorem k_X7_at (l : Launch) (G : Ge) (S : St)  (x : Int) (hx : -2147483648 ≤ x ∧ x < 2147483648) (ht : 0 ≤ S.1 50 0 ∧ S.1 50 0 ≤ 200) (hc : ∀ i : Int, 0 ≤ i → i < S.1 50 0 → 32 ≤ S.1 0 i ∧ S.1 0 i ≤ 126) : Ki (KC G) l yX7_at cX7_at 2 .char rm_X7_at [.ref (G.2.2 1), .int (iI x)] S (po_X7_at S x) := by
  refine K_start (own := "NameSeeker$Text") (by decide +kernel) rfl (Nat.le_of_ble_eq_true rfl) ?_
  intro p e s m args below meth c X hr hlk I ls hl
  have hl : lv_has ls 2 [(0, .ref (G.2.2 1)), (1, .int (iI x))] := hl
  refine lv_iload_n X.1 X.2.1 dX7_at_0 rfl (lv_at hl 1 rfl) ?_
  refine rz_lt (tgt := 21) X (by omega) dX7_at_1 (by decide) (fun c1 => ?_) (fun c1 => ?_)
  · skip
    refine ri_const X (v := 0) dX7_at_21 ?_
    exact rt_i X hr hlk I (by rfl) (by first | (exfalso; omega) | exact (⟨by unfold txat; first | rw [if_pos (by omega)] | rw [if_neg (by omega)], rfl⟩)) dX7_at_22
  · skip
    refine lv_iload_n X.1 X.2.1 dX7_at_4 rfl (lv_at hl 1 rfl) ?_
    refine lv_aload_n X.1 X.2.1 dX7_at_5 rfl (lv_at hl 0 rfl) ?_
    refine gC_text_size X I (v := (S.1 50 0)) rfl tb_44 dX7_at_6 ?_
    refine rj_ge (tgt := 21) X (by omega) (by omega) dX7_at_9 (by decide) (fun c2 => ?_) (fun c2 => ?_)
    · skip
      refine ri_const X (v := 0) dX7_at_21 ?_
      exact rt_i X hr hlk I (by rfl) (by first | (exfalso; omega) | exact (⟨by unfold txat; first | rw [if_pos (by omega)] | rw [if_neg (by omega)], rfl⟩)) dX7_at_22
    · skip
      refine lv_aload_n X.1 X.2.1 dX7_at_12 rfl (lv_at hl 0 rfl) ?_
      refine gC_text_letters X I tb_43 dX7_at_13 ?_
      refine lv_iload_n X.1 X.2.1 dX7_at_16 rfl (lv_at hl 1 rfl) ?_
      refine aC_text X I (v := (S.1 0 x)) rfl (by omega) dX7_at_17 ?_
      refine lv_goto (tgt := 22) X.1 X.2.1 dX7_at_18 (by decide) ?_
      exact rt_i X hr hlk I (ch_of (hc x (by omega) (by omega))) (by first | (exfalso; omega) | exact (⟨by unfold txat; first | rw [if_pos (by omega)] | rw [if_neg (by omega)], rfl⟩)) dX7_at_22

theorem ok_X7_figureAt : yX7_figureAt.cls ≠ "java/lang/invoke/MethodHandle" ∧ yX7_figureAt.cls ≠ "java/lang/invoke/VarHandle" ∧ (parseMethodDescriptor yX7_figureAt.desc).map (fun d => d.parameters.length) = some 1 := ⟨by decide +kernel, by decide +kernel, by decide +kernel⟩
abbrev po_X7_figureAt (S : St)  (x : Int) : Int → St → Prop := fun r S1 => r = txat S x - 48 ∧ S1 = S
abbrev rm_X7_figureAt : Room := ({ frames := 1, cells := 0, slots := 0, locals := 21 } : Room)
set_option maxRecDepth 100000 in
set_option maxHeartbeats 4000000 in
theorem k_X7_figureAt (l : Launch) (G : Ge) (S : St)  (x : Int) (hx : -2147483648 ≤ x ∧ x < 2147483648) (ht : 0 ≤ S.1 50 0 ∧ S.1 50 0 ≤ 200) (hc : ∀ i : Int, 0 ≤ i → i < S.1 50 0 → 32 ≤ S.1 0 i ∧ S.1 0 i ≤ 126) : Ki (KC G) l yX7_figureAt cX7_figureAt 2 .int rm_X7_figureAt [.ref (G.2.2 1), .int (iI x)] S (po_X7_figureAt S x) := by
  refine K_start (own := "NameSeeker$Text") (by decide +kernel) rfl (Nat.le_of_ble_eq_true rfl) ?_
  intro p e s m args below meth c X hr hlk I ls hl
  have hl : lv_has ls 2 [(0, .ref (G.2.2 1)), (1, .int (iI x))] := hl
  refine lv_aload_n X.1 X.2.1 dX7_figureAt_0 rfl (lv_at hl 0 rfl) ?_
  refine lv_iload_n X.1 X.2.1 dX7_figureAt_1 rfl (lv_at hl 1 rfl) ?_
  refine cl_i I (runV (As := [.int (iI x)]) (rest := []) X (k_X7_at l G S  x (by omega) ht hc) (gdC tb_315 (gdC tb_308 (gdC tb_309 (gdC tb_15 (gdC tb_310 gdB))))) ⟨ok_X7_at, ⟨Nat.le_of_ble_eq_true rfl, Nat.le_of_ble_eq_true rfl⟩, rfl, rfl⟩ (PreV.of (C := RX7) (T := TX7) (N := 2) I (atC_text) rfl) rfl hl.1 rfl (Nat.le_of_ble_eq_true rfl) dX7_figureAt_2 ⟨Nat.zero_le _, Nat.zero_le _⟩) (fun r1 S2 H locs q3 I => ?_)
  obtain ⟨e1_, e2_⟩ := q3
  rw [e2_] at I
  rw [e1_]
  clear e1_ e2_
  have t4 := txat_r ht hc x
  refine ri_push X (v := 48) (by decide) dX7_figureAt_5 ?_
  refine ri_sub X (v := ((txat S x) - 48)) rfl dX7_figureAt_7 ?_
  exact rt_i X hr hlk I rfl (by first | (exfalso; omega) | exact (⟨rfl, rfl⟩)) dX7_figureAt_8

theorem ok_X7_isFigure : yX7_isFigure.cls ≠ "java/lang/invoke/MethodHandle" ∧ yX7_isFigure.cls ≠ "java/lang/invoke/VarHandle" ∧ (parseMethodDescriptor yX7_isFigure.desc).map (fun d => d.parameters.length) = some 2 := ⟨by decide +kernel, by decide +kernel, by decide +kernel⟩
abbrev po_X7_isFigure (S : St)  (x : Int) (u : Int) : Int → St → Prop := fun r S1 => r = bI (48 ≤ txat S x ∧ txat S x ≤ 48 + u) ∧ S1 = S
abbrev rm_X7_isFigure : Room := ({ frames := 2, cells := 0, slots := 0, locals := 42 } : Room)
set_option maxRecDepth 100000 in
set_option maxHeartbeats 4000000 in
theorem k_X7_isFigure (l : Launch) (G : Ge) (S : St)  (x : Int) (u : Int) (hx : -2147483648 ≤ x ∧ x < 2147483648) (hu : 0 ≤ u ∧ u ≤ 9) (ht : 0 ≤ S.1 50 0 ∧ S.1 50 0 ≤ 200) (hc : ∀ i : Int, 0 ≤ i → i < S.1 50 0 → 32 ≤ S.1 0 i ∧ S.1 0 i ≤ 126) : Ki (KC G) l yX7_isFigure cX7_isFigure 3 .boolean rm_X7_isFigure [.ref (G.2.2 1), .int (iI x), .int (iI u)] S (po_X7_isFigure S x u) := by
  refine K_start (own := "NameSeeker$Text") (by decide +kernel) rfl (Nat.le_of_ble_eq_true rfl) ?_
  intro p e s m args below meth c X hr hlk I ls hl
  have hl : lv_has ls 3 [(0, .ref (G.2.2 1)), (1, .int (iI x)), (2, .int (iI u))] := hl
  refine lv_aload_n X.1 X.2.1 dX7_isFigure_0 rfl (lv_at hl 0 rfl) ?_
  refine lv_iload_n X.1 X.2.1 dX7_isFigure_1 rfl (lv_at hl 1 rfl) ?_
  refine cl_i I (runV (As := [.int (iI x)]) (rest := []) X (k_X7_figureAt l G S  x (by omega) ht hc) (gdC tb_363 (gdC tb_312 (gdC tb_313 (gdC tb_15 (gdC tb_314 gdB))))) ⟨ok_X7_figureAt, ⟨Nat.le_of_ble_eq_true rfl, Nat.le_of_ble_eq_true rfl⟩, rfl, rfl⟩ (PreV.of (C := RX7) (T := TX7) (N := 2) I (atC_text) rfl) rfl hl.1 rfl (Nat.le_of_ble_eq_true rfl) dX7_isFigure_2 ⟨Nat.zero_le _, Nat.zero_le _⟩) (fun r1 S2 H locs q3 I => ?_)
  obtain ⟨e1_, e2_⟩ := q3
  rw [e2_] at I
  rw [e1_]
  clear e1_ e2_
  have t4 := txat_r ht hc x
  refine rz_lt (tgt := 21) X (by omega) dX7_isFigure_5 (by decide) (fun c5 => ?_) (fun c5 => ?_)
  · skip
    refine ri_const X (v := 0) dX7_isFigure_21 ?_
    exact rt_i X hr hlk I (by rfl) (by first | (exfalso; omega) | exact (⟨(bI_f (by omega)).symm, rfl⟩)) dX7_isFigure_22
  · skip
    refine lv_aload_n X.1 X.2.1 dX7_isFigure_8 rfl (lv_at hl 0 rfl) ?_
    refine lv_iload_n X.1 X.2.1 dX7_isFigure_9 rfl (lv_at hl 1 rfl) ?_
    refine cl_i I (runV (As := [.int (iI x)]) (rest := []) X (k_X7_figureAt l G S  x (by omega) ht hc) (gdC tb_363 (gdC tb_312 (gdC tb_313 (gdC tb_15 (gdC tb_314 gdB))))) ⟨ok_X7_figureAt, ⟨Nat.le_of_ble_eq_true rfl, Nat.le_of_ble_eq_true rfl⟩, rfl, rfl⟩ (PreV.of (C := RX7) (T := TX7) (N := 2) I (atC_text) rfl) rfl hl.1 rfl (Nat.le_of_ble_eq_true rfl) dX7_isFigure_10 ⟨Nat.zero_le _, Nat.zero_le _⟩) (fun r6 S7 H locs q8 I => ?_)
    obtain ⟨e1_, e2_⟩ := q8
    rw [e2_] at I
    rw [e1_]
    clear e1_ e2_
    have t9 := txat_r ht hc x
    refine lv_iload_n X.1 X.2.1 dX7_isFigure_13 rfl (lv_at hl 2 rfl) ?_
    refine rj_gt (tgt := 21) X (by omega) (by omega) dX7_isFigure_14 (by decide) (fun c10 => ?_) (fun c10 => ?_)
    · skip
      refine ri_const X (v := 0) dX7_isFigure_21 ?_
      exact rt_i X hr hlk I (by rfl) (by first | (exfalso; omega) | exact (⟨(bI_f (by omega)).symm, rfl⟩)) dX7_isFigure_22
    · skip
      refine ri_const X (v := 1) dX7_isFigure_17 ?_
      refine lv_goto (tgt := 22) X.1 X.2.1 dX7_isFigure_18 (by decide) ?_
      exact rt_i X hr hlk I (by rfl) (by first | (exfalso; omega) | exact (⟨(bI_t (by omega)).symm, rfl⟩)) dX7_isFigure_22

theorem ok_X7_behindName : yX7_behindName.cls ≠ "java/lang/invoke/MethodHandle" ∧ yX7_behindName.cls ≠ "java/lang/invoke/VarHandle" ∧ (parseMethodDescriptor yX7_behindName.desc).map (fun d => d.parameters.length) = some 1 := ⟨by decide +kernel, by decide +kernel, by decide +kernel⟩
abbrev po_X7_behindName (S : St)  (x : Int) : Int → St → Prop := fun r S1 => r = bNam (txat S) x ∧ S1 = S
abbrev rm_X7_behindName : Room := ({ frames := 3, cells := 0, slots := 0, locals := 64 } : Room)
set_option maxRecDepth 100000 in
set_option maxHeartbeats 4000000 in
theorem k_X7_behindName (l : Launch) (G : Ge) (S : St)  (x : Int) (hx : -1000 ≤ x ∧ x ≤ 1000) (ht : 0 ≤ S.1 50 0 ∧ S.1 50 0 ≤ 200) (hc : ∀ i : Int, 0 ≤ i → i < S.1 50 0 → 32 ≤ S.1 0 i ∧ S.1 0 i ≤ 126) : Ki (KC G) l yX7_behindName cX7_behindName 4 .int rm_X7_behindName [.ref (G.2.2 1), .int (iI x)] S (po_X7_behindName S x) := by
  refine K_start (own := "NameSeeker$Text") (by decide +kernel) rfl (Nat.le_of_ble_eq_true rfl) ?_
  intro p e s m args below meth c X hr hlk I ls hl
  have hl : lv_has ls 4 [(0, .ref (G.2.2 1)), (1, .int (iI x))] := hl
  refine lv_aload_n X.1 X.2.1 dX7_behindName_0 rfl (lv_at hl 0 rfl) ?_
  refine lv_iload_n X.1 X.2.1 dX7_behindName_1 rfl (lv_at hl 1 rfl) ?_
  refine ri_const X (v := 1) dX7_behindName_2 ?_
  refine ri_add X (v := (x + 1)) rfl dX7_behindName_3 ?_
  refine ri_const X (v := 3) dX7_behindName_4 ?_
  refine cl_i I (runV (As := [.int (iI (x + 1)), .int (iI 3)]) (rest := []) X (k_X7_isFigure l G S  (x + 1) 3 (by omega) (by omega) ht hc) (gdC tb_359 (gdC tb_361 (gdC tb_4 (gdC tb_15 (gdC tb_362 gdB))))) ⟨ok_X7_isFigure, ⟨Nat.le_of_ble_eq_true rfl, Nat.le_of_ble_eq_true rfl⟩, rfl, rfl⟩ (PreV.of (C := RX7) (T := TX7) (N := 2) I (atC_text) rfl) rfl hl.1 rfl (Nat.le_of_ble_eq_true rfl) dX7_behindName_5 ⟨Nat.zero_le _, Nat.zero_le _⟩) (fun r1 S2 H locs q3 I => ?_)
  obtain ⟨e1_, e2_⟩ := q3
  rw [e2_] at I
  rw [e1_]
  clear e1_ e2_
  rcases Decidable.em ((48 ≤ txat S (x + 1) ∧ txat S (x + 1) ≤ 48 + 3)) with b4 | b4
  · rw [bI_t b4]
    refine rz_eq (tgt := 23) X (by omega) dX7_behindName_8 (by decide) (fun c5 => absurd c5 (by decide)) (fun _ => ?_)
    refine lv_aload_n X.1 X.2.1 dX7_behindName_11 rfl (lv_at hl 0 rfl) ?_
    refine lv_iload_n X.1 X.2.1 dX7_behindName_12 rfl (lv_at hl 1 rfl) ?_
    refine ri_const X (v := 2) dX7_behindName_13 ?_
    refine ri_add X (v := (x + 2)) rfl dX7_behindName_14 ?_
    refine cl_i I (runV (As := [.int (iI (x + 2))]) (rest := []) X (k_X7_at l G S  (x + 2) (by omega) ht hc) (gdC tb_315 (gdC tb_308 (gdC tb_309 (gdC tb_15 (gdC tb_310 gdB))))) ⟨ok_X7_at, ⟨Nat.le_of_ble_eq_true rfl, Nat.le_of_ble_eq_true rfl⟩, rfl, rfl⟩ (PreV.of (C := RX7) (T := TX7) (N := 2) I (atC_text) rfl) rfl hl.1 rfl (Nat.le_of_ble_eq_true rfl) dX7_behindName_15 ⟨Nat.zero_le _, Nat.zero_le _⟩) (fun r6 S7 H locs q8 I => ?_)
    obtain ⟨e1_, e2_⟩ := q8
    rw [e2_] at I
    rw [e1_]
    clear e1_ e2_
    have t9 := txat_r ht hc (x + 2)
    refine ri_push X (v := 44) (by decide) dX7_behindName_18 ?_
    refine rj_eq (tgt := 25) X (by omega) (by omega) dX7_behindName_20 (by decide) (fun c10 => ?_) (fun c10 => ?_)
    · skip
      refine ri_const X (v := 0) dX7_behindName_25 ?_
      refine lv_istore_n (lv' := [(2, .int (iI 0)), (0, .ref (G.2.2 1)), (1, .int (iI x))]) X.1 X.2.1 dX7_behindName_26 rfl hl (by decide) rfl (fun ls hl => ?_)
      have lp_27 : ∀ (n_ : Nat) (k : Int), (13 - k).toNat < n_ → ∀ (hk0 : 0 ≤ k ∧ k ≤ 13) (hk1 : k + sgc (txat S) ((x + 3) + k) (13 - k).toNat = sgc (txat S) (x + 3) 13) (H : Heap) (locs : List Loc), In (KC G) s s.heap H locs S → ∀ ls : Array Slot, lv_has ls 4 [(0, .ref (G.2.2 1)), (1, .int (iI x)), (2, .int (iI k))] → W p l e rm_X7_behindName s m args below meth c H locs 0 0 (MQ below (QI (KC G) (po_X7_behindName S x)) args s 0 0 (KC G).2.2.2) (F0 m 27 ls []) := by
        intro n_
        induction n_ with
        | zero => intro k hm; exact absurd hm (by omega)
        | succ n_ ih_27 =>
          intro k hm_27 hk0 hk1 H locs I ls hl
          refine lv_iload_n X.1 X.2.1 dX7_behindName_27 rfl (lv_at hl 2 rfl) ?_
          refine ri_push X (v := 12) (by decide) dX7_behindName_28 ?_
          refine rj_gt (tgt := 54) X (by omega) (by omega) dX7_behindName_30 (by decide) (fun c11 => ?_) (fun c11 => ?_)
          · skip
            have hk : k = sgc (txat S) (x + 3) 13 := by
              rw [← hk1]
              first | (rw [show (13 - k).toNat = 0 by omega, sgc]; omega) | (rw [sgc_no _ (by omega)]; omega)
            refine lv_iload_n X.1 X.2.1 dX7_behindName_54 rfl (lv_at hl 2 rfl) ?_
            refine ri_const X (v := 1) dX7_behindName_55 ?_
            refine rj_lt (tgt := 83) X (by omega) (by omega) dX7_behindName_56 (by decide) (fun c12 => ?_) (fun c12 => ?_)
            · skip
              refine ri_const X (v := 0) dX7_behindName_83 ?_
              refine lv_istore_n (lv' := [(3, .int (iI 0)), (0, .ref (G.2.2 1)), (1, .int (iI x)), (2, .int (iI k))]) X.1 X.2.1 dX7_behindName_84 rfl hl (by decide) rfl (fun ls hl => ?_)
              refine lv_iload_n X.1 X.2.1 dX7_behindName_85 rfl (lv_at hl 0 rfl) ?_
              refine rz_eq (tgt := 97) X (by omega) dX7_behindName_86 (by decide) (fun _ => ?_) (fun c13 => absurd c13 (fun q => q (by decide)))
              refine ri_const X (v := (-1)) dX7_behindName_97 ?_
              exact rt_i X hr hlk I rfl (by first | (exfalso; omega) | exact (⟨by unfold bNam; rw [← hk]; first | rw [if_pos (by omega)] | rw [if_neg (by omega)], rfl⟩)) dX7_behindName_98
            · skip
              refine lv_iload_n X.1 X.2.1 dX7_behindName_59 rfl (lv_at hl 2 rfl) ?_
              refine ri_push X (v := 12) (by decide) dX7_behindName_60 ?_
              refine rj_gt (tgt := 83) X (by omega) (by omega) dX7_behindName_62 (by decide) (fun c14 => ?_) (fun c14 => ?_)
              · skip
                refine ri_const X (v := 0) dX7_behindName_83 ?_
                refine lv_istore_n (lv' := [(3, .int (iI 0)), (0, .ref (G.2.2 1)), (1, .int (iI x)), (2, .int (iI k))]) X.1 X.2.1 dX7_behindName_84 rfl hl (by decide) rfl (fun ls hl => ?_)
                refine lv_iload_n X.1 X.2.1 dX7_behindName_85 rfl (lv_at hl 0 rfl) ?_
                refine rz_eq (tgt := 97) X (by omega) dX7_behindName_86 (by decide) (fun _ => ?_) (fun c15 => absurd c15 (fun q => q (by decide)))
                refine ri_const X (v := (-1)) dX7_behindName_97 ?_
                exact rt_i X hr hlk I rfl (by first | (exfalso; omega) | exact (⟨by unfold bNam; rw [← hk]; first | rw [if_pos (by omega)] | rw [if_neg (by omega)], rfl⟩)) dX7_behindName_98
              · skip
                refine lv_aload_n X.1 X.2.1 dX7_behindName_65 rfl (lv_at hl 0 rfl) ?_
                refine lv_iload_n X.1 X.2.1 dX7_behindName_66 rfl (lv_at hl 1 rfl) ?_
                refine ri_const X (v := 3) dX7_behindName_67 ?_
                refine ri_add X (v := (x + 3)) rfl dX7_behindName_68 ?_
                refine lv_iload_n X.1 X.2.1 dX7_behindName_69 rfl (lv_at hl 2 rfl) ?_
                refine ri_add X (v := ((x + 3) + k)) rfl dX7_behindName_70 ?_
                refine cl_i I (runV (As := [.int (iI ((x + 3) + k))]) (rest := []) X (k_X7_at l G S  ((x + 3) + k) (by omega) ht hc) (gdC tb_315 (gdC tb_308 (gdC tb_309 (gdC tb_15 (gdC tb_310 gdB))))) ⟨ok_X7_at, ⟨Nat.le_of_ble_eq_true rfl, Nat.le_of_ble_eq_true rfl⟩, rfl, rfl⟩ (PreV.of (C := RX7) (T := TX7) (N := 2) I (atC_text) rfl) rfl hl.1 rfl (Nat.le_of_ble_eq_true rfl) dX7_behindName_71 ⟨Nat.zero_le _, Nat.zero_le _⟩) (fun r16 S17 H locs q18 I => ?_)
                obtain ⟨e1_, e2_⟩ := q18
                rw [e2_] at I
                rw [e1_]
                clear e1_ e2_
                have t19 := txat_r ht hc ((x + 3) + k)
                refine ri_push X (v := 59) (by decide) dX7_behindName_74 ?_
                refine rj_ne (tgt := 83) X (by omega) (by omega) dX7_behindName_76 (by decide) (fun c20 => ?_) (fun c20 => ?_)
                · skip
                  refine ri_const X (v := 0) dX7_behindName_83 ?_
                  refine lv_istore_n (lv' := [(3, .int (iI 0)), (0, .ref (G.2.2 1)), (1, .int (iI x)), (2, .int (iI k))]) X.1 X.2.1 dX7_behindName_84 rfl hl (by decide) rfl (fun ls hl => ?_)
                  refine lv_iload_n X.1 X.2.1 dX7_behindName_85 rfl (lv_at hl 0 rfl) ?_
                  refine rz_eq (tgt := 97) X (by omega) dX7_behindName_86 (by decide) (fun _ => ?_) (fun c21 => absurd c21 (fun q => q (by decide)))
                  refine ri_const X (v := (-1)) dX7_behindName_97 ?_
                  exact rt_i X hr hlk I rfl (by first | (exfalso; omega) | exact (⟨by unfold bNam; rw [← hk]; first | rw [if_pos (by omega)] | rw [if_neg (by omega)], rfl⟩)) dX7_behindName_98
                · skip
                  refine ri_const X (v := 1) dX7_behindName_79 ?_
                  refine lv_goto (tgt := 84) X.1 X.2.1 dX7_behindName_80 (by decide) ?_
                  refine lv_istore_n (lv' := [(3, .int (iI 1)), (0, .ref (G.2.2 1)), (1, .int (iI x)), (2, .int (iI k))]) X.1 X.2.1 dX7_behindName_84 rfl hl (by decide) rfl (fun ls hl => ?_)
                  refine lv_iload_n X.1 X.2.1 dX7_behindName_85 rfl (lv_at hl 0 rfl) ?_
                  refine rz_eq (tgt := 97) X (by omega) dX7_behindName_86 (by decide) (fun c22 => absurd c22 (by decide)) (fun _ => ?_)
                  refine lv_iload_n X.1 X.2.1 dX7_behindName_89 rfl (lv_at hl 2 rfl) ?_
                  refine ri_const X (v := 4) dX7_behindName_90 ?_
                  refine ri_add X (v := (x + 4)) rfl dX7_behindName_91 ?_
                  refine lv_iload_n X.1 X.2.1 dX7_behindName_92 rfl (lv_at hl 3 rfl) ?_
                  refine ri_add X (v := ((x + 4) + k)) rfl dX7_behindName_93 ?_
                  refine lv_goto (tgt := 98) X.1 X.2.1 dX7_behindName_94 (by decide) ?_
                  exact rt_i X hr hlk I rfl (by first | (exfalso; omega) | exact (⟨by unfold bNam; rw [← hk]; first | rw [if_pos (by omega)] | rw [if_neg (by omega)], rfl⟩)) dX7_behindName_98
          · skip
            refine lv_aload_n X.1 X.2.1 dX7_behindName_33 rfl (lv_at hl 0 rfl) ?_
            refine lv_iload_n X.1 X.2.1 dX7_behindName_34 rfl (lv_at hl 1 rfl) ?_
            refine ri_const X (v := 3) dX7_behindName_35 ?_
            refine ri_add X (v := (x + 3)) rfl dX7_behindName_36 ?_
            refine lv_iload_n X.1 X.2.1 dX7_behindName_37 rfl (lv_at hl 2 rfl) ?_
            refine ri_add X (v := ((x + 3) + k)) rfl dX7_behindName_38 ?_
            refine cl_i I (runV (As := [.int (iI ((x + 3) + k))]) (rest := []) X (k_X7_at l G S  ((x + 3) + k) (by omega) ht hc) (gdC tb_315 (gdC tb_308 (gdC tb_309 (gdC tb_15 (gdC tb_310 gdB))))) ⟨ok_X7_at, ⟨Nat.le_of_ble_eq_true rfl, Nat.le_of_ble_eq_true rfl⟩, rfl, rfl⟩ (PreV.of (C := RX7) (T := TX7) (N := 2) I (atC_text) rfl) rfl hl.1 rfl (Nat.le_of_ble_eq_true rfl) dX7_behindName_39 ⟨Nat.zero_le _, Nat.zero_le _⟩) (fun r23 S24 H locs q25 I => ?_)
            obtain ⟨e1_, e2_⟩ := q25
            rw [e2_] at I
            rw [e1_]
            clear e1_ e2_
            have t26 := txat_r ht hc ((x + 3) + k)
            refine cl_i I (runSN (As := [.int (iI (txat S ((x + 3) + k)))]) (rest := []) X (k_X9_isSign l G S  (txat S ((x + 3) + k)) (by omega)) (gdC tb_327 gdB) (I.2.2.2.2 _ (List.mem_of_getElem? (i := 4) rfl)) tb_326 tb_14 ⟨ok_X9_isSign, ⟨Nat.le_of_ble_eq_true rfl, Nat.le_of_ble_eq_true rfl⟩, rfl, rfl⟩ (PreS.of I) rfl hl.1 rfl (Nat.le_of_ble_eq_true rfl) dX7_behindName_42 ⟨Nat.zero_le _, Nat.zero_le _⟩) (fun r27 S28 H locs q29 I => ?_)
            obtain ⟨e1_, e2_⟩ := q29
            rw [e2_] at I
            rw [e1_]
            clear e1_ e2_
            rcases Decidable.em (((97 ≤ ((txat S ((x + 3) + k))) ∧ ((txat S ((x + 3) + k))) ≤ 122) ∨ (65 ≤ ((txat S ((x + 3) + k))) ∧ ((txat S ((x + 3) + k))) ≤ 90) ∨ ((txat S ((x + 3) + k))) = 95)) with b30 | b30
            · rw [bI_t b30]
              refine rz_eq (tgt := 54) X (by omega) dX7_behindName_45 (by decide) (fun c31 => absurd c31 (by decide)) (fun _ => ?_)
              refine ri_iinc X (k := 2) (v := (k + 1)) (lv' := [(2, .int (iI (k + 1))), (0, .ref (G.2.2 1)), (1, .int (iI x))]) rfl dX7_behindName_48 hl rfl (by decide) rfl (fun ls hl => ?_)
              refine lv_goto (tgt := 27) X.1 X.2.1 dX7_behindName_51 (by decide) ?_
              exact ih_27 (k + 1) (by omega) (by omega) (by have e := sgc_yes (f := txat S) (p := x + 3 + k) (n := (13 - k).toNat) (by omega) (by omega); rw [e, show (13 - k).toNat - 1 = (13 - (k + 1)).toNat by omega, show x + 3 + k + 1 = x + 3 + (k + 1) by omega] at hk1; omega) _ _ I ls (lv_sub hl [1, 2, 0] rfl)
            · rw [bI_f b30]
              refine rz_eq (tgt := 54) X (by omega) dX7_behindName_45 (by decide) (fun _ => ?_) (fun c32 => absurd c32 (fun q => q (by decide)))
              have hk : k = sgc (txat S) (x + 3) 13 := by
                rw [← hk1]
                first | (rw [show (13 - k).toNat = 0 by omega, sgc]; omega) | (rw [sgc_no _ (by omega)]; omega)
              refine lv_iload_n X.1 X.2.1 dX7_behindName_54 rfl (lv_at hl 2 rfl) ?_
              refine ri_const X (v := 1) dX7_behindName_55 ?_
              refine rj_lt (tgt := 83) X (by omega) (by omega) dX7_behindName_56 (by decide) (fun c33 => ?_) (fun c33 => ?_)
              · skip
                refine ri_const X (v := 0) dX7_behindName_83 ?_
                refine lv_istore_n (lv' := [(3, .int (iI 0)), (0, .ref (G.2.2 1)), (1, .int (iI x)), (2, .int (iI k))]) X.1 X.2.1 dX7_behindName_84 rfl hl (by decide) rfl (fun ls hl => ?_)
                refine lv_iload_n X.1 X.2.1 dX7_behindName_85 rfl (lv_at hl 0 rfl) ?_
                refine rz_eq (tgt := 97) X (by omega) dX7_behindName_86 (by decide) (fun _ => ?_) (fun c34 => absurd c34 (fun q => q (by decide)))
                refine ri_const X (v := (-1)) dX7_behindName_97 ?_
                exact rt_i X hr hlk I rfl (by first | (exfalso; omega) | exact (⟨by unfold bNam; rw [← hk]; first | rw [if_pos (by omega)] | rw [if_neg (by omega)], rfl⟩)) dX7_behindName_98
              · skip
                refine lv_iload_n X.1 X.2.1 dX7_behindName_59 rfl (lv_at hl 2 rfl) ?_
                refine ri_push X (v := 12) (by decide) dX7_behindName_60 ?_
                refine rj_gt (tgt := 83) X (by omega) (by omega) dX7_behindName_62 (by decide) (fun c35 => ?_) (fun c35 => ?_)
                · skip
                  refine ri_const X (v := 0) dX7_behindName_83 ?_
                  refine lv_istore_n (lv' := [(3, .int (iI 0)), (0, .ref (G.2.2 1)), (1, .int (iI x)), (2, .int (iI k))]) X.1 X.2.1 dX7_behindName_84 rfl hl (by decide) rfl (fun ls hl => ?_)
                  refine lv_iload_n X.1 X.2.1 dX7_behindName_85 rfl (lv_at hl 0 rfl) ?_
                  refine rz_eq (tgt := 97) X (by omega) dX7_behindName_86 (by decide) (fun _ => ?_) (fun c36 => absurd c36 (fun q => q (by decide)))
                  refine ri_const X (v := (-1)) dX7_behindName_97 ?_
                  exact rt_i X hr hlk I rfl (by first | (exfalso; omega) | exact (⟨by unfold bNam; rw [← hk]; first | rw [if_pos (by omega)] | rw [if_neg (by omega)], rfl⟩)) dX7_behindName_98
                · skip
                  refine lv_aload_n X.1 X.2.1 dX7_behindName_65 rfl (lv_at hl 0 rfl) ?_
                  refine lv_iload_n X.1 X.2.1 dX7_behindName_66 rfl (lv_at hl 1 rfl) ?_
                  refine ri_const X (v := 3) dX7_behindName_67 ?_
                  refine ri_add X (v := (x + 3)) rfl dX7_behindName_68 ?_
                  refine lv_iload_n X.1 X.2.1 dX7_behindName_69 rfl (lv_at hl 2 rfl) ?_
                  refine ri_add X (v := ((x + 3) + k)) rfl dX7_behindName_70 ?_
                  refine cl_i I (runV (As := [.int (iI ((x + 3) + k))]) (rest := []) X (k_X7_at l G S  ((x + 3) + k) (by omega) ht hc) (gdC tb_315 (gdC tb_308 (gdC tb_309 (gdC tb_15 (gdC tb_310 gdB))))) ⟨ok_X7_at, ⟨Nat.le_of_ble_eq_true rfl, Nat.le_of_ble_eq_true rfl⟩, rfl, rfl⟩ (PreV.of (C := RX7) (T := TX7) (N := 2) I (atC_text) rfl) rfl hl.1 rfl (Nat.le_of_ble_eq_true rfl) dX7_behindName_71 ⟨Nat.zero_le _, Nat.zero_le _⟩) (fun r37 S38 H locs q39 I => ?_)
                  obtain ⟨e1_, e2_⟩ := q39
                  rw [e2_] at I
                  rw [e1_]
                  clear e1_ e2_
                  have t40 := txat_r ht hc ((x + 3) + k)
                  refine ri_push X (v := 59) (by decide) dX7_behindName_74 ?_
                  refine rj_ne (tgt := 83) X (by omega) (by omega) dX7_behindName_76 (by decide) (fun c41 => ?_) (fun c41 => ?_)
                  · skip
                    refine ri_const X (v := 0) dX7_behindName_83 ?_
                    refine lv_istore_n (lv' := [(3, .int (iI 0)), (0, .ref (G.2.2 1)), (1, .int (iI x)), (2, .int (iI k))]) X.1 X.2.1 dX7_behindName_84 rfl hl (by decide) rfl (fun ls hl => ?_)
                    refine lv_iload_n X.1 X.2.1 dX7_behindName_85 rfl (lv_at hl 0 rfl) ?_
                    refine rz_eq (tgt := 97) X (by omega) dX7_behindName_86 (by decide) (fun _ => ?_) (fun c42 => absurd c42 (fun q => q (by decide)))
                    refine ri_const X (v := (-1)) dX7_behindName_97 ?_
                    exact rt_i X hr hlk I rfl (by first | (exfalso; omega) | exact (⟨by unfold bNam; rw [← hk]; first | rw [if_pos (by omega)] | rw [if_neg (by omega)], rfl⟩)) dX7_behindName_98
                  · skip
                    refine ri_const X (v := 1) dX7_behindName_79 ?_
                    refine lv_goto (tgt := 84) X.1 X.2.1 dX7_behindName_80 (by decide) ?_
                    refine lv_istore_n (lv' := [(3, .int (iI 1)), (0, .ref (G.2.2 1)), (1, .int (iI x)), (2, .int (iI k))]) X.1 X.2.1 dX7_behindName_84 rfl hl (by decide) rfl (fun ls hl => ?_)
                    refine lv_iload_n X.1 X.2.1 dX7_behindName_85 rfl (lv_at hl 0 rfl) ?_
                    refine rz_eq (tgt := 97) X (by omega) dX7_behindName_86 (by decide) (fun c43 => absurd c43 (by decide)) (fun _ => ?_)
                    refine lv_iload_n X.1 X.2.1 dX7_behindName_89 rfl (lv_at hl 2 rfl) ?_
                    refine ri_const X (v := 4) dX7_behindName_90 ?_
                    refine ri_add X (v := (x + 4)) rfl dX7_behindName_91 ?_
                    refine lv_iload_n X.1 X.2.1 dX7_behindName_92 rfl (lv_at hl 3 rfl) ?_
                    refine ri_add X (v := ((x + 4) + k)) rfl dX7_behindName_93 ?_
                    refine lv_goto (tgt := 98) X.1 X.2.1 dX7_behindName_94 (by decide) ?_
                    exact rt_i X hr hlk I rfl (by first | (exfalso; omega) | exact (⟨by unfold bNam; rw [← hk]; first | rw [if_pos (by omega)] | rw [if_neg (by omega)], rfl⟩)) dX7_behindName_98
      exact lp_27 (14) 0 (by omega) (by omega) (by simp) _ _ I ls (lv_sub hl [1, 2, 0] rfl)
    · skip
      refine ri_const X (v := (-1)) dX7_behindName_23 ?_
      exact rt_i X hr hlk I rfl (by first | (exfalso; omega) | exact (⟨by unfold bNam; first | rw [if_pos (by omega)] | rw [if_neg (by omega)], rfl⟩)) dX7_behindName_24
  · rw [bI_f b4]
    refine rz_eq (tgt := 23) X (by omega) dX7_behindName_8 (by decide) (fun _ => ?_) (fun c44 => absurd c44 (fun q => q (by decide)))
    refine ri_const X (v := (-1)) dX7_behindName_23 ?_
    exact rt_i X hr hlk I rfl (by first | (exfalso; omega) | exact (⟨by unfold bNam; first | rw [if_pos (by omega)] | rw [if_neg (by omega)], rfl⟩)) dX7_behindName_24

theorem ok_X7_behindWorths : yX7_behindWorths.cls ≠ "java/lang/invoke/MethodHandle" ∧ yX7_behindWorths.cls ≠ "java/lang/invoke/VarHandle" ∧ (parseMethodDescriptor yX7_behindWorths.desc).map (fun d => d.parameters.length) = some 1 := ⟨by decide +kernel, by decide +kernel, by decide +kernel⟩
abbrev po_X7_behindWorths (S : St)  (x : Int) : Int → St → Prop := fun r S1 => r = bWor (txat S) x ∧ S1 = S
abbrev rm_X7_behindWorths : Room := ({ frames := 3, cells := 0, slots := 0, locals := 64 } : Room)
set_option maxRecDepth 100000 in
set_option maxHeartbeats 4000000 in
theorem k_X7_behindWorths (l : Launch) (G : Ge) (S : St)  (x : Int) (hx : -1000 ≤ x ∧ x ≤ 1000) (ht : 0 ≤ S.1 50 0 ∧ S.1 50 0 ≤ 200) (hc : ∀ i : Int, 0 ≤ i → i < S.1 50 0 → 32 ≤ S.1 0 i ∧ S.1 0 i ≤ 126) : Ki (KC G) l yX7_behindWorths cX7_behindWorths 3 .int rm_X7_behindWorths [.ref (G.2.2 1), .int (iI x)] S (po_X7_behindWorths S x) := by
  refine K_start (own := "NameSeeker$Text") (by decide +kernel) rfl (Nat.le_of_ble_eq_true rfl) ?_
  intro p e s m args below meth c X hr hlk I ls hl
  have hl : lv_has ls 3 [(0, .ref (G.2.2 1)), (1, .int (iI x))] := hl
  refine lv_aload_n X.1 X.2.1 dX7_behindWorths_0 rfl (lv_at hl 0 rfl) ?_
  refine lv_iload_n X.1 X.2.1 dX7_behindWorths_1 rfl (lv_at hl 1 rfl) ?_
  refine ri_const X (v := 1) dX7_behindWorths_2 ?_
  refine ri_add X (v := (x + 1)) rfl dX7_behindWorths_3 ?_
  refine ri_push X (v := 9) (by decide) dX7_behindWorths_4 ?_
  refine cl_i I (runV (As := [.int (iI (x + 1)), .int (iI 9)]) (rest := []) X (k_X7_isFigure l G S  (x + 1) 9 (by omega) (by omega) ht hc) (gdC tb_359 (gdC tb_361 (gdC tb_4 (gdC tb_15 (gdC tb_362 gdB))))) ⟨ok_X7_isFigure, ⟨Nat.le_of_ble_eq_true rfl, Nat.le_of_ble_eq_true rfl⟩, rfl, rfl⟩ (PreV.of (C := RX7) (T := TX7) (N := 2) I (atC_text) rfl) rfl hl.1 rfl (Nat.le_of_ble_eq_true rfl) dX7_behindWorths_6 ⟨Nat.zero_le _, Nat.zero_le _⟩) (fun r1 S2 H locs q3 I => ?_)
  obtain ⟨e1_, e2_⟩ := q3
  rw [e2_] at I
  rw [e1_]
  clear e1_ e2_
  rcases Decidable.em ((48 ≤ txat S (x + 1) ∧ txat S (x + 1) ≤ 48 + 9)) with b4 | b4
  · rw [bI_t b4]
    refine rz_eq (tgt := 77) X (by omega) dX7_behindWorths_9 (by decide) (fun c5 => absurd c5 (by decide)) (fun _ => ?_)
    refine lv_aload_n X.1 X.2.1 dX7_behindWorths_12 rfl (lv_at hl 0 rfl) ?_
    refine lv_iload_n X.1 X.2.1 dX7_behindWorths_13 rfl (lv_at hl 1 rfl) ?_
    refine ri_const X (v := 2) dX7_behindWorths_14 ?_
    refine ri_add X (v := (x + 2)) rfl dX7_behindWorths_15 ?_
    refine cl_i I (runV (As := [.int (iI (x + 2))]) (rest := []) X (k_X7_at l G S  (x + 2) (by omega) ht hc) (gdC tb_315 (gdC tb_308 (gdC tb_309 (gdC tb_15 (gdC tb_310 gdB))))) ⟨ok_X7_at, ⟨Nat.le_of_ble_eq_true rfl, Nat.le_of_ble_eq_true rfl⟩, rfl, rfl⟩ (PreV.of (C := RX7) (T := TX7) (N := 2) I (atC_text) rfl) rfl hl.1 rfl (Nat.le_of_ble_eq_true rfl) dX7_behindWorths_16 ⟨Nat.zero_le _, Nat.zero_le _⟩) (fun r6 S7 H locs q8 I => ?_)
    obtain ⟨e1_, e2_⟩ := q8
    rw [e2_] at I
    rw [e1_]
    clear e1_ e2_
    have t9 := txat_r ht hc (x + 2)
    refine ri_push X (v := 44) (by decide) dX7_behindWorths_19 ?_
    refine rj_ne (tgt := 77) X (by omega) (by omega) dX7_behindWorths_21 (by decide) (fun c10 => ?_) (fun c10 => ?_)
    · skip
      refine ri_const X (v := 0) dX7_behindWorths_77 ?_
      refine lv_istore_n (lv' := [(2, .int (iI 0)), (0, .ref (G.2.2 1)), (1, .int (iI x))]) X.1 X.2.1 dX7_behindWorths_78 rfl hl (by decide) rfl (fun ls hl => ?_)
      refine lv_iload_n X.1 X.2.1 dX7_behindWorths_79 rfl (lv_at hl 0 rfl) ?_
      refine rz_eq (tgt := 90) X (by omega) dX7_behindWorths_80 (by decide) (fun _ => ?_) (fun c11 => absurd c11 (fun q => q (by decide)))
      refine ri_const X (v := (-1)) dX7_behindWorths_90 ?_
      exact rt_i X hr hlk I rfl (by first | (exfalso; omega) | exact (⟨by unfold bWor; first | rw [if_pos (by omega)] | rw [if_neg (by omega)], rfl⟩)) dX7_behindWorths_91
    · skip
      refine lv_aload_n X.1 X.2.1 dX7_behindWorths_24 rfl (lv_at hl 0 rfl) ?_
      refine lv_iload_n X.1 X.2.1 dX7_behindWorths_25 rfl (lv_at hl 1 rfl) ?_
      refine ri_const X (v := 3) dX7_behindWorths_26 ?_
      refine ri_add X (v := (x + 3)) rfl dX7_behindWorths_27 ?_
      refine ri_push X (v := 9) (by decide) dX7_behindWorths_28 ?_
      refine cl_i I (runV (As := [.int (iI (x + 3)), .int (iI 9)]) (rest := []) X (k_X7_isFigure l G S  (x + 3) 9 (by omega) (by omega) ht hc) (gdC tb_359 (gdC tb_361 (gdC tb_4 (gdC tb_15 (gdC tb_362 gdB))))) ⟨ok_X7_isFigure, ⟨Nat.le_of_ble_eq_true rfl, Nat.le_of_ble_eq_true rfl⟩, rfl, rfl⟩ (PreV.of (C := RX7) (T := TX7) (N := 2) I (atC_text) rfl) rfl hl.1 rfl (Nat.le_of_ble_eq_true rfl) dX7_behindWorths_30 ⟨Nat.zero_le _, Nat.zero_le _⟩) (fun r12 S13 H locs q14 I => ?_)
      obtain ⟨e1_, e2_⟩ := q14
      rw [e2_] at I
      rw [e1_]
      clear e1_ e2_
      rcases Decidable.em ((48 ≤ txat S (x + 3) ∧ txat S (x + 3) ≤ 48 + 9)) with b15 | b15
      · rw [bI_t b15]
        refine rz_eq (tgt := 77) X (by omega) dX7_behindWorths_33 (by decide) (fun c16 => absurd c16 (by decide)) (fun _ => ?_)
        refine lv_aload_n X.1 X.2.1 dX7_behindWorths_36 rfl (lv_at hl 0 rfl) ?_
        refine lv_iload_n X.1 X.2.1 dX7_behindWorths_37 rfl (lv_at hl 1 rfl) ?_
        refine ri_const X (v := 4) dX7_behindWorths_38 ?_
        refine ri_add X (v := (x + 4)) rfl dX7_behindWorths_39 ?_
        refine cl_i I (runV (As := [.int (iI (x + 4))]) (rest := []) X (k_X7_at l G S  (x + 4) (by omega) ht hc) (gdC tb_315 (gdC tb_308 (gdC tb_309 (gdC tb_15 (gdC tb_310 gdB))))) ⟨ok_X7_at, ⟨Nat.le_of_ble_eq_true rfl, Nat.le_of_ble_eq_true rfl⟩, rfl, rfl⟩ (PreV.of (C := RX7) (T := TX7) (N := 2) I (atC_text) rfl) rfl hl.1 rfl (Nat.le_of_ble_eq_true rfl) dX7_behindWorths_40 ⟨Nat.zero_le _, Nat.zero_le _⟩) (fun r17 S18 H locs q19 I => ?_)
        obtain ⟨e1_, e2_⟩ := q19
        rw [e2_] at I
        rw [e1_]
        clear e1_ e2_
        have t20 := txat_r ht hc (x + 4)
        refine ri_push X (v := 44) (by decide) dX7_behindWorths_43 ?_
        refine rj_ne (tgt := 77) X (by omega) (by omega) dX7_behindWorths_45 (by decide) (fun c21 => ?_) (fun c21 => ?_)
        · skip
          refine ri_const X (v := 0) dX7_behindWorths_77 ?_
          refine lv_istore_n (lv' := [(2, .int (iI 0)), (0, .ref (G.2.2 1)), (1, .int (iI x))]) X.1 X.2.1 dX7_behindWorths_78 rfl hl (by decide) rfl (fun ls hl => ?_)
          refine lv_iload_n X.1 X.2.1 dX7_behindWorths_79 rfl (lv_at hl 0 rfl) ?_
          refine rz_eq (tgt := 90) X (by omega) dX7_behindWorths_80 (by decide) (fun _ => ?_) (fun c22 => absurd c22 (fun q => q (by decide)))
          refine ri_const X (v := (-1)) dX7_behindWorths_90 ?_
          exact rt_i X hr hlk I rfl (by first | (exfalso; omega) | exact (⟨by unfold bWor; first | rw [if_pos (by omega)] | rw [if_neg (by omega)], rfl⟩)) dX7_behindWorths_91
        · skip
          refine lv_aload_n X.1 X.2.1 dX7_behindWorths_48 rfl (lv_at hl 0 rfl) ?_
          refine lv_iload_n X.1 X.2.1 dX7_behindWorths_49 rfl (lv_at hl 1 rfl) ?_
          refine ri_const X (v := 5) dX7_behindWorths_50 ?_
          refine ri_add X (v := (x + 5)) rfl dX7_behindWorths_51 ?_
          refine ri_push X (v := 9) (by decide) dX7_behindWorths_52 ?_
          refine cl_i I (runV (As := [.int (iI (x + 5)), .int (iI 9)]) (rest := []) X (k_X7_isFigure l G S  (x + 5) 9 (by omega) (by omega) ht hc) (gdC tb_359 (gdC tb_361 (gdC tb_4 (gdC tb_15 (gdC tb_362 gdB))))) ⟨ok_X7_isFigure, ⟨Nat.le_of_ble_eq_true rfl, Nat.le_of_ble_eq_true rfl⟩, rfl, rfl⟩ (PreV.of (C := RX7) (T := TX7) (N := 2) I (atC_text) rfl) rfl hl.1 rfl (Nat.le_of_ble_eq_true rfl) dX7_behindWorths_54 ⟨Nat.zero_le _, Nat.zero_le _⟩) (fun r23 S24 H locs q25 I => ?_)
          obtain ⟨e1_, e2_⟩ := q25
          rw [e2_] at I
          rw [e1_]
          clear e1_ e2_
          rcases Decidable.em ((48 ≤ txat S (x + 5) ∧ txat S (x + 5) ≤ 48 + 9)) with b26 | b26
          · rw [bI_t b26]
            refine rz_eq (tgt := 77) X (by omega) dX7_behindWorths_57 (by decide) (fun c27 => absurd c27 (by decide)) (fun _ => ?_)
            refine lv_aload_n X.1 X.2.1 dX7_behindWorths_60 rfl (lv_at hl 0 rfl) ?_
            refine lv_iload_n X.1 X.2.1 dX7_behindWorths_61 rfl (lv_at hl 1 rfl) ?_
            refine ri_push X (v := 6) (by decide) dX7_behindWorths_62 ?_
            refine ri_add X (v := (x + 6)) rfl dX7_behindWorths_64 ?_
            refine cl_i I (runV (As := [.int (iI (x + 6))]) (rest := []) X (k_X7_at l G S  (x + 6) (by omega) ht hc) (gdC tb_315 (gdC tb_308 (gdC tb_309 (gdC tb_15 (gdC tb_310 gdB))))) ⟨ok_X7_at, ⟨Nat.le_of_ble_eq_true rfl, Nat.le_of_ble_eq_true rfl⟩, rfl, rfl⟩ (PreV.of (C := RX7) (T := TX7) (N := 2) I (atC_text) rfl) rfl hl.1 rfl (Nat.le_of_ble_eq_true rfl) dX7_behindWorths_65 ⟨Nat.zero_le _, Nat.zero_le _⟩) (fun r28 S29 H locs q30 I => ?_)
            obtain ⟨e1_, e2_⟩ := q30
            rw [e2_] at I
            rw [e1_]
            clear e1_ e2_
            have t31 := txat_r ht hc (x + 6)
            refine ri_push X (v := 59) (by decide) dX7_behindWorths_68 ?_
            refine rj_ne (tgt := 77) X (by omega) (by omega) dX7_behindWorths_70 (by decide) (fun c32 => ?_) (fun c32 => ?_)
            · skip
              refine ri_const X (v := 0) dX7_behindWorths_77 ?_
              refine lv_istore_n (lv' := [(2, .int (iI 0)), (0, .ref (G.2.2 1)), (1, .int (iI x))]) X.1 X.2.1 dX7_behindWorths_78 rfl hl (by decide) rfl (fun ls hl => ?_)
              refine lv_iload_n X.1 X.2.1 dX7_behindWorths_79 rfl (lv_at hl 0 rfl) ?_
              refine rz_eq (tgt := 90) X (by omega) dX7_behindWorths_80 (by decide) (fun _ => ?_) (fun c33 => absurd c33 (fun q => q (by decide)))
              refine ri_const X (v := (-1)) dX7_behindWorths_90 ?_
              exact rt_i X hr hlk I rfl (by first | (exfalso; omega) | exact (⟨by unfold bWor; first | rw [if_pos (by omega)] | rw [if_neg (by omega)], rfl⟩)) dX7_behindWorths_91
            · skip
              refine ri_const X (v := 1) dX7_behindWorths_73 ?_
              refine lv_goto (tgt := 78) X.1 X.2.1 dX7_behindWorths_74 (by decide) ?_
              refine lv_istore_n (lv' := [(2, .int (iI 1)), (0, .ref (G.2.2 1)), (1, .int (iI x))]) X.1 X.2.1 dX7_behindWorths_78 rfl hl (by decide) rfl (fun ls hl => ?_)
              refine lv_iload_n X.1 X.2.1 dX7_behindWorths_79 rfl (lv_at hl 0 rfl) ?_
              refine rz_eq (tgt := 90) X (by omega) dX7_behindWorths_80 (by decide) (fun c34 => absurd c34 (by decide)) (fun _ => ?_)
              refine lv_iload_n X.1 X.2.1 dX7_behindWorths_83 rfl (lv_at hl 2 rfl) ?_
              refine ri_push X (v := 7) (by decide) dX7_behindWorths_84 ?_
              refine ri_add X (v := (x + 7)) rfl dX7_behindWorths_86 ?_
              refine lv_goto (tgt := 91) X.1 X.2.1 dX7_behindWorths_87 (by decide) ?_
              exact rt_i X hr hlk I rfl (by first | (exfalso; omega) | exact (⟨by unfold bWor; first | rw [if_pos (by omega)] | rw [if_neg (by omega)], rfl⟩)) dX7_behindWorths_91
          · rw [bI_f b26]
            refine rz_eq (tgt := 77) X (by omega) dX7_behindWorths_57 (by decide) (fun _ => ?_) (fun c35 => absurd c35 (fun q => q (by decide)))
            refine ri_const X (v := 0) dX7_behindWorths_77 ?_
            refine lv_istore_n (lv' := [(2, .int (iI 0)), (0, .ref (G.2.2 1)), (1, .int (iI x))]) X.1 X.2.1 dX7_behindWorths_78 rfl hl (by decide) rfl (fun ls hl => ?_)
            refine lv_iload_n X.1 X.2.1 dX7_behindWorths_79 rfl (lv_at hl 0 rfl) ?_
            refine rz_eq (tgt := 90) X (by omega) dX7_behindWorths_80 (by decide) (fun _ => ?_) (fun c36 => absurd c36 (fun q => q (by decide)))
            refine ri_const X (v := (-1)) dX7_behindWorths_90 ?_
            exact rt_i X hr hlk I rfl (by first | (exfalso; omega) | exact (⟨by unfold bWor; first | rw [if_pos (by omega)] | rw [if_neg (by omega)], rfl⟩)) dX7_behindWorths_91
      · rw [bI_f b15]
        refine rz_eq (tgt := 77) X (by omega) dX7_behindWorths_33 (by decide) (fun _ => ?_) (fun c37 => absurd c37 (fun q => q (by decide)))
        refine ri_const X (v := 0) dX7_behindWorths_77 ?_
        refine lv_istore_n (lv' := [(2, .int (iI 0)), (0, .ref (G.2.2 1)), (1, .int (iI x))]) X.1 X.2.1 dX7_behindWorths_78 rfl hl (by decide) rfl (fun ls hl => ?_)
        refine lv_iload_n X.1 X.2.1 dX7_behindWorths_79 rfl (lv_at hl 0 rfl) ?_
        refine rz_eq (tgt := 90) X (by omega) dX7_behindWorths_80 (by decide) (fun _ => ?_) (fun c38 => absurd c38 (fun q => q (by decide)))
        refine ri_const X (v := (-1)) dX7_behindWorths_90 ?_
        exact rt_i X hr hlk I rfl (by first | (exfalso; omega) | exact (⟨by unfold bWor; first | rw [if_pos (by omega)] | rw [if_neg (by omega)], rfl⟩)) dX7_behindWorths_91
  · rw [bI_f b4]
    refine rz_eq (tgt := 77) X (by omega) dX7_behindWorths_9 (by decide) (fun _ => ?_) (fun c39 => absurd c39 (fun q => q (by decide)))
    refine ri_const X (v := 0) dX7_behindWorths_77 ?_
    refine lv_istore_n (lv' := [(2, .int (iI 0)), (0, .ref (G.2.2 1)), (1, .int (iI x))]) X.1 X.2.1 dX7_behindWorths_78 rfl hl (by decide) rfl (fun ls hl => ?_)
    refine lv_iload_n X.1 X.2.1 dX7_behindWorths_79 rfl (lv_at hl 0 rfl) ?_
    refine rz_eq (tgt := 90) X (by omega) dX7_behindWorths_80 (by decide) (fun _ => ?_) (fun c40 => absurd c40 (fun q => q (by decide)))
    refine ri_const X (v := (-1)) dX7_behindWorths_90 ?_
    exact rt_i X hr hlk I rfl (by first | (exfalso; omega) | exact (⟨by unfold bWor; first | rw [if_pos (by omega)] | rw [if_neg (by omega)], rfl⟩)) dX7_behindWorths_91

theorem ok_X7_behindItem : yX7_behindItem.cls ≠ "java/lang/invoke/MethodHandle" ∧ yX7_behindItem.cls ≠ "java/lang/invoke/VarHandle" ∧ (parseMethodDescriptor yX7_behindItem.desc).map (fun d => d.parameters.length) = some 1 := ⟨by decide +kernel, by decide +kernel, by decide +kernel⟩
abbrev po_X7_behindItem (S : St)  (x : Int) : Int → St → Prop := fun r S1 => r = bItm (txat S) x ∧ S1 = S
abbrev rm_X7_behindItem : Room := ({ frames := 4, cells := 0, slots := 0, locals := 87 } : Room)
set_option maxRecDepth 100000 in
set_option maxHeartbeats 4000000 in
theorem k_X7_behindItem (l : Launch) (G : Ge) (S : St)  (x : Int) (hx : -1000 ≤ x ∧ x ≤ 1000) (ht : 0 ≤ S.1 50 0 ∧ S.1 50 0 ≤ 200) (hc : ∀ i : Int, 0 ≤ i → i < S.1 50 0 → 32 ≤ S.1 0 i ∧ S.1 0 i ≤ 126) : Ki (KC G) l yX7_behindItem cX7_behindItem 2 .int rm_X7_behindItem [.ref (G.2.2 1), .int (iI x)] S (po_X7_behindItem S x) := by
  refine K_start (own := "NameSeeker$Text") (by decide +kernel) rfl (Nat.le_of_ble_eq_true rfl) ?_
  intro p e s m args below meth c X hr hlk I ls hl
  have hl : lv_has ls 2 [(0, .ref (G.2.2 1)), (1, .int (iI x))] := hl
  refine lv_aload_n X.1 X.2.1 dX7_behindItem_0 rfl (lv_at hl 0 rfl) ?_
  refine lv_iload_n X.1 X.2.1 dX7_behindItem_1 rfl (lv_at hl 1 rfl) ?_
  refine cl_i I (runV (As := [.int (iI x)]) (rest := []) X (k_X7_at l G S  x (by omega) ht hc) (gdC tb_315 (gdC tb_308 (gdC tb_309 (gdC tb_15 (gdC tb_310 gdB))))) ⟨ok_X7_at, ⟨Nat.le_of_ble_eq_true rfl, Nat.le_of_ble_eq_true rfl⟩, rfl, rfl⟩ (PreV.of (C := RX7) (T := TX7) (N := 2) I (atC_text) rfl) rfl hl.1 rfl (Nat.le_of_ble_eq_true rfl) dX7_behindItem_2 ⟨Nat.zero_le _, Nat.zero_le _⟩) (fun r1 S2 H locs q3 I => ?_)
  obtain ⟨e1_, e2_⟩ := q3
  rw [e2_] at I
  rw [e1_]
  clear e1_ e2_
  have t4 := txat_r ht hc x
  refine ri_push X (v := 115) (by decide) dX7_behindItem_5 ?_
  refine rj_ne (tgt := 16) X (by omega) (by omega) dX7_behindItem_7 (by decide) (fun c5 => ?_) (fun c5 => ?_)
  · skip
    refine lv_aload_n X.1 X.2.1 dX7_behindItem_16 rfl (lv_at hl 0 rfl) ?_
    refine lv_iload_n X.1 X.2.1 dX7_behindItem_17 rfl (lv_at hl 1 rfl) ?_
    refine cl_i I (runV (As := [.int (iI x)]) (rest := []) X (k_X7_at l G S  x (by omega) ht hc) (gdC tb_315 (gdC tb_308 (gdC tb_309 (gdC tb_15 (gdC tb_310 gdB))))) ⟨ok_X7_at, ⟨Nat.le_of_ble_eq_true rfl, Nat.le_of_ble_eq_true rfl⟩, rfl, rfl⟩ (PreV.of (C := RX7) (T := TX7) (N := 2) I (atC_text) rfl) rfl hl.1 rfl (Nat.le_of_ble_eq_true rfl) dX7_behindItem_18 ⟨Nat.zero_le _, Nat.zero_le _⟩) (fun r6 S7 H locs q8 I => ?_)
    obtain ⟨e1_, e2_⟩ := q8
    rw [e2_] at I
    rw [e1_]
    clear e1_ e2_
    have t9 := txat_r ht hc x
    refine ri_push X (v := 119) (by decide) dX7_behindItem_21 ?_
    refine rj_ne (tgt := 34) X (by omega) (by omega) dX7_behindItem_23 (by decide) (fun c10 => ?_) (fun c10 => ?_)
    · skip
      refine ri_const X (v := (-1)) dX7_behindItem_34 ?_
      exact rt_i X hr hlk I rfl (by first | (exfalso; omega) | exact (⟨by unfold bItm; first | rw [if_pos (by omega)] | rw [if_neg (by omega), if_pos (by omega)] | rw [if_neg (by omega), if_neg (by omega)], rfl⟩)) dX7_behindItem_35
    · skip
      refine lv_aload_n X.1 X.2.1 dX7_behindItem_26 rfl (lv_at hl 0 rfl) ?_
      refine lv_iload_n X.1 X.2.1 dX7_behindItem_27 rfl (lv_at hl 1 rfl) ?_
      refine cl_i I (runV (As := [.int (iI x)]) (rest := []) X (k_X7_behindWorths l G S  x (by omega) ht hc) (gdC tb_365 (gdC tb_367 (gdC tb_5 (gdC tb_15 (gdC tb_368 gdB))))) ⟨ok_X7_behindWorths, ⟨Nat.le_of_ble_eq_true rfl, Nat.le_of_ble_eq_true rfl⟩, rfl, rfl⟩ (PreV.of (C := RX7) (T := TX7) (N := 2) I (atC_text) rfl) rfl hl.1 rfl (Nat.le_of_ble_eq_true rfl) dX7_behindItem_28 ⟨Nat.zero_le _, Nat.zero_le _⟩) (fun r11 S12 H locs q13 I => ?_)
      obtain ⟨e1_, e2_⟩ := q13
      rw [e2_] at I
      rw [e1_]
      clear e1_ e2_
      refine lv_goto (tgt := 35) X.1 X.2.1 dX7_behindItem_31 (by decide) ?_
      exact rt_i X hr hlk I rfl (by first | (exfalso; omega) | exact (⟨by unfold bItm; first | rw [if_pos (by omega)] | rw [if_neg (by omega), if_pos (by omega)] | rw [if_neg (by omega), if_neg (by omega)], rfl⟩)) dX7_behindItem_35
  · skip
    refine lv_aload_n X.1 X.2.1 dX7_behindItem_10 rfl (lv_at hl 0 rfl) ?_
    refine lv_iload_n X.1 X.2.1 dX7_behindItem_11 rfl (lv_at hl 1 rfl) ?_
    refine cl_i I (runV (As := [.int (iI x)]) (rest := []) X (k_X7_behindName l G S  x (by omega) ht hc) (gdC tb_355 (gdC tb_357 (gdC tb_3 (gdC tb_15 (gdC tb_358 gdB))))) ⟨ok_X7_behindName, ⟨Nat.le_of_ble_eq_true rfl, Nat.le_of_ble_eq_true rfl⟩, rfl, rfl⟩ (PreV.of (C := RX7) (T := TX7) (N := 2) I (atC_text) rfl) rfl hl.1 rfl (Nat.le_of_ble_eq_true rfl) dX7_behindItem_12 ⟨Nat.zero_le _, Nat.zero_le _⟩) (fun r14 S15 H locs q16 I => ?_)
    obtain ⟨e1_, e2_⟩ := q16
    rw [e2_] at I
    rw [e1_]
    clear e1_ e2_
    have t17 := bNam_r ht x
    exact rt_i X hr hlk I rfl (by first | (exfalso; omega) | exact (⟨by unfold bItm; first | rw [if_pos (by omega)] | rw [if_neg (by omega), if_pos (by omega)] | rw [if_neg (by omega), if_neg (by omega)], rfl⟩)) dX7_behindItem_15

theorem ok_X7_firstFault : yX7_firstFault.cls ≠ "java/lang/invoke/MethodHandle" ∧ yX7_firstFault.cls ≠ "java/lang/invoke/VarHandle" ∧ (parseMethodDescriptor yX7_firstFault.desc).map (fun d => d.parameters.length) = some 0 := ⟨by decide +kernel, by decide +kernel, by decide +kernel⟩
abbrev po_X7_firstFault (S : St)   : Int → St → Prop := fun r S1 => r = flt (txat S) (S.1 50 0) 200 0 0 ∧ S1 = S
abbrev rm_X7_firstFault : Room := ({ frames := 5, cells := 0, slots := 0, locals := 108 } : Room)
set_option maxRecDepth 100000 in
set_option maxHeartbeats 4000000 in
theorem k_X7_firstFault (l : Launch) (G : Ge) (S : St)   (ht : 0 ≤ S.1 50 0 ∧ S.1 50 0 ≤ 200) (hc : ∀ i : Int, 0 ≤ i → i < S.1 50 0 → 32 ≤ S.1 0 i ∧ S.1 0 i ≤ 126) : Ki (KC G) l yX7_firstFault cX7_firstFault 5 .int rm_X7_firstFault [.ref (G.2.2 1)] S (po_X7_firstFault S) := by
  refine K_start (own := "NameSeeker$Text") (by decide +kernel) rfl (Nat.le_of_ble_eq_true rfl) ?_
  intro p e s m args below meth c X hr hlk I ls hl
  have hl : lv_has ls 5 [(0, .ref (G.2.2 1))] := hl
  refine ri_const X (v := 0) dX7_firstFault_0 ?_
  refine lv_istore_n (lv' := [(1, .int (iI 0)), (0, .ref (G.2.2 1))]) X.1 X.2.1 dX7_firstFault_1 rfl hl (by decide) rfl (fun ls hl => ?_)
  refine ri_const X (v := 0) dX7_firstFault_2 ?_
  refine lv_istore_n (lv' := [(2, .int (iI 0)), (1, .int (iI 0)), (0, .ref (G.2.2 1))]) X.1 X.2.1 dX7_firstFault_3 rfl hl (by decide) rfl (fun ls hl => ?_)
  refine ri_const X (v := 0) dX7_firstFault_4 ?_
  refine lv_istore_n (lv' := [(3, .int (iI 0)), (2, .int (iI 0)), (1, .int (iI 0)), (0, .ref (G.2.2 1))]) X.1 X.2.1 dX7_firstFault_5 rfl hl (by decide) rfl (fun ls hl => ?_)
  have lp_6 : ∀ (n_ : Nat) (i : Int) (a : Int) (n : Int), (200 - i).toNat < n_ → ∀ (hi : 0 ≤ i ∧ i ≤ 200 ∧ i ≤ a ∧ a ≤ S.1 50 0 ∧ 0 ≤ n ∧ n ≤ i) (hI : flt (txat S) (S.1 50 0) (200 - i).toNat a n = flt (txat S) (S.1 50 0) 200 0 0) (H : Heap) (locs : List Loc), In (KC G) s s.heap H locs S → ∀ ls : Array Slot, lv_has ls 5 [(0, .ref (G.2.2 1)), (1, .int (iI a)), (2, .int (iI n)), (3, .int (iI i))] → W p l e rm_X7_firstFault s m args below meth c H locs 0 0 (MQ below (QI (KC G) (po_X7_firstFault S)) args s 0 0 (KC G).2.2.2) (F0 m 6 ls []) := by
    intro n_
    induction n_ with
    | zero => intro i a n hm; exact absurd hm (by omega)
    | succ n_ ih_6 =>
      intro i a n hm_6 hi hI H locs I ls hl
      refine lv_iload_n X.1 X.2.1 dX7_firstFault_6 rfl (lv_at hl 3 rfl) ?_
      refine ri_spush X (v := 200) (by decide) dX7_firstFault_7 ?_
      refine rj_ge (tgt := 64) X (by omega) (by omega) dX7_firstFault_10 (by decide) (fun c1 => ?_) (fun c1 => ?_)
      · skip
        refine ri_push X (v := (-4)) (by decide) dX7_firstFault_64 ?_
        exact rt_i X hr hlk I rfl (by first | (exfalso; omega) | exact (⟨by rw [← hI]; first | rw [flt_end (by omega)] | rw [flt_bad (by omega) (by omega) (by omega)], rfl⟩)) dX7_firstFault_66
      · skip
        refine lv_iload_n X.1 X.2.1 dX7_firstFault_13 rfl (lv_at hl 1 rfl) ?_
        refine lv_aload_n X.1 X.2.1 dX7_firstFault_14 rfl (lv_at hl 0 rfl) ?_
        refine gC_text_size X I (v := (S.1 50 0)) rfl tb_44 dX7_firstFault_15 ?_
        refine rj_ge (tgt := 64) X (by omega) (by omega) dX7_firstFault_18 (by decide) (fun c2 => ?_) (fun c2 => ?_)
        · skip
          refine ri_push X (v := (-4)) (by decide) dX7_firstFault_64 ?_
          exact rt_i X hr hlk I rfl (by first | (exfalso; omega) | exact (⟨by rw [← hI]; first | rw [flt_end (by omega)] | rw [flt_bad (by omega) (by omega) (by omega)], rfl⟩)) dX7_firstFault_66
        · skip
          refine lv_aload_n X.1 X.2.1 dX7_firstFault_21 rfl (lv_at hl 0 rfl) ?_
          refine lv_iload_n X.1 X.2.1 dX7_firstFault_22 rfl (lv_at hl 1 rfl) ?_
          refine cl_i I (runV (As := [.int (iI a)]) (rest := []) X (k_X7_behindItem l G S  a (by omega) ht hc) (gdC tb_519 (gdC tb_352 (gdC tb_353 (gdC tb_15 (gdC tb_354 gdB))))) ⟨ok_X7_behindItem, ⟨Nat.le_of_ble_eq_true rfl, Nat.le_of_ble_eq_true rfl⟩, rfl, rfl⟩ (PreV.of (C := RX7) (T := TX7) (N := 2) I (atC_text) rfl) rfl hl.1 rfl (Nat.le_of_ble_eq_true rfl) dX7_firstFault_23 ⟨Nat.zero_le _, Nat.zero_le _⟩) (fun r3 S4 H locs q5 I => ?_)
          obtain ⟨e1_, e2_⟩ := q5
          rw [e2_] at I
          rw [e1_]
          clear e1_ e2_
          have t6 := bItm_r ht a
          refine lv_istore (lv' := [(4, .int (iI (bItm (txat S) a))), (0, .ref (G.2.2 1)), (1, .int (iI a)), (2, .int (iI n)), (3, .int (iI i))]) X.1 X.2.1 dX7_firstFault_26 hl (by decide) rfl (fun ls hl => ?_)
          refine lv_aload_n X.1 X.2.1 dX7_firstFault_28 rfl (lv_at hl 1 rfl) ?_
          refine lv_iload_n X.1 X.2.1 dX7_firstFault_29 rfl (lv_at hl 2 rfl) ?_
          refine cl_i I (runV (As := [.int (iI a)]) (rest := []) X (k_X7_at l G S  a (by omega) ht hc) (gdC tb_315 (gdC tb_308 (gdC tb_309 (gdC tb_15 (gdC tb_310 gdB))))) ⟨ok_X7_at, ⟨Nat.le_of_ble_eq_true rfl, Nat.le_of_ble_eq_true rfl⟩, rfl, rfl⟩ (PreV.of (C := RX7) (T := TX7) (N := 2) I (atC_text) rfl) rfl hl.1 rfl (Nat.le_of_ble_eq_true rfl) dX7_firstFault_30 ⟨Nat.zero_le _, Nat.zero_le _⟩) (fun r7 S8 H locs q9 I => ?_)
          obtain ⟨e1_, e2_⟩ := q9
          rw [e2_] at I
          rw [e1_]
          clear e1_ e2_
          have t10 := txat_r ht hc a
          refine ri_push X (v := 115) (by decide) dX7_firstFault_33 ?_
          refine rj_ne (tgt := 41) X (by omega) (by omega) dX7_firstFault_35 (by decide) (fun c11 => ?_) (fun c11 => ?_)
          · skip
            refine lv_iload X.1 X.2.1 dX7_firstFault_41 (lv_at hl 0 rfl) ?_
            refine ri_const X (v := (-1)) dX7_firstFault_43 ?_
            refine rj_eq (tgt := 53) X (by omega) (by omega) dX7_firstFault_44 (by decide) (fun c12 => ?_) (fun c12 => ?_)
            · skip
              refine lv_iload_n X.1 X.2.1 dX7_firstFault_53 rfl (lv_at hl 2 rfl) ?_
              exact rt_i X hr hlk I rfl (by first | (exfalso; omega) | exact (⟨by rw [← hI]; first | rw [flt_end (by omega)] | rw [flt_bad (by omega) (by omega) (by omega)], rfl⟩)) dX7_firstFault_54
            · skip
              refine lv_iload_n X.1 X.2.1 dX7_firstFault_47 rfl (lv_at hl 3 rfl) ?_
              refine ri_push X (v := 8) (by decide) dX7_firstFault_48 ?_
              refine rj_le (tgt := 55) X (by omega) (by omega) dX7_firstFault_50 (by decide) (fun c13 => ?_) (fun c13 => ?_)
              · skip
                refine lv_iload X.1 X.2.1 dX7_firstFault_55 (lv_at hl 0 rfl) ?_
                refine lv_istore_n (lv' := [(1, .int (iI (bItm (txat S) a))), (4, .int (iI (bItm (txat S) a))), (0, .ref (G.2.2 1)), (2, .int (iI n)), (3, .int (iI i))]) X.1 X.2.1 dX7_firstFault_57 rfl hl (by decide) rfl (fun ls hl => ?_)
                refine ri_iinc X (k := 4) (v := (i + 1)) (lv' := [(3, .int (iI (i + 1))), (1, .int (iI (bItm (txat S) a))), (4, .int (iI (bItm (txat S) a))), (0, .ref (G.2.2 1)), (2, .int (iI n))]) rfl dX7_firstFault_58 hl rfl (by decide) rfl (fun ls hl => ?_)
                refine lv_goto (tgt := 6) X.1 X.2.1 dX7_firstFault_61 (by decide) ?_
                exact ih_6 (i + 1) (bItm (txat S) a) n (by omega) (by omega) (by rw [← hI]; exact (flt_go (by omega) (by omega) (by omega)).symm) _ _ I ls (lv_sub hl [3, 1, 4, 0] rfl)
              · skip
                refine lv_iload_n X.1 X.2.1 dX7_firstFault_53 rfl (lv_at hl 2 rfl) ?_
                exact rt_i X hr hlk I rfl (by first | (exfalso; omega) | exact (⟨by rw [← hI]; first | rw [flt_end (by omega)] | rw [flt_bad (by omega) (by omega) (by omega)], rfl⟩)) dX7_firstFault_54
          · skip
            refine ri_iinc X (k := 3) (v := (n + 1)) (lv' := [(2, .int (iI (n + 1))), (4, .int (iI (bItm (txat S) a))), (0, .ref (G.2.2 1)), (1, .int (iI a)), (3, .int (iI i))]) rfl dX7_firstFault_38 hl rfl (by decide) rfl (fun ls hl => ?_)
            refine lv_iload X.1 X.2.1 dX7_firstFault_41 (lv_at hl 1 rfl) ?_
            refine ri_const X (v := (-1)) dX7_firstFault_43 ?_
            refine rj_eq (tgt := 53) X (by omega) (by omega) dX7_firstFault_44 (by decide) (fun c14 => ?_) (fun c14 => ?_)
            · skip
              refine lv_iload_n X.1 X.2.1 dX7_firstFault_53 rfl (lv_at hl 3 rfl) ?_
              exact rt_i X hr hlk I rfl (by first | (exfalso; omega) | exact (⟨by rw [← hI]; first | rw [flt_end (by omega)] | rw [flt_bad (by omega) (by omega) (by omega)], rfl⟩)) dX7_firstFault_54
            · skip
              refine lv_iload_n X.1 X.2.1 dX7_firstFault_47 rfl (lv_at hl 0 rfl) ?_
              refine ri_push X (v := 8) (by decide) dX7_firstFault_48 ?_
              refine rj_le (tgt := 55) X (by omega) (by omega) dX7_firstFault_50 (by decide) (fun c15 => ?_) (fun c15 => ?_)
              · skip
                refine lv_iload X.1 X.2.1 dX7_firstFault_55 (lv_at hl 1 rfl) ?_
                refine lv_istore_n (lv' := [(1, .int (iI (bItm (txat S) a))), (2, .int (iI (n + 1))), (4, .int (iI (bItm (txat S) a))), (0, .ref (G.2.2 1)), (3, .int (iI i))]) X.1 X.2.1 dX7_firstFault_57 rfl hl (by decide) rfl (fun ls hl => ?_)
                refine ri_iinc X (k := 4) (v := (i + 1)) (lv' := [(3, .int (iI (i + 1))), (1, .int (iI (bItm (txat S) a))), (2, .int (iI (n + 1))), (4, .int (iI (bItm (txat S) a))), (0, .ref (G.2.2 1))]) rfl dX7_firstFault_58 hl rfl (by decide) rfl (fun ls hl => ?_)
                refine lv_goto (tgt := 6) X.1 X.2.1 dX7_firstFault_61 (by decide) ?_
                exact ih_6 (i + 1) (bItm (txat S) a) (n + 1) (by omega) (by omega) (by rw [← hI]; exact (flt_go (by omega) (by omega) (by omega)).symm) _ _ I ls (lv_sub hl [4, 1, 2, 0] rfl)
              · skip
                refine lv_iload_n X.1 X.2.1 dX7_firstFault_53 rfl (lv_at hl 3 rfl) ?_
                exact rt_i X hr hlk I rfl (by first | (exfalso; omega) | exact (⟨by rw [← hI]; first | rw [flt_end (by omega)] | rw [flt_bad (by omega) (by omega) (by omega)], rfl⟩)) dX7_firstFault_54
  exact lp_6 (201) 0 0 0 (by omega) (by omega) (by simp) _ _ I ls (lv_sub hl [3, 2, 1, 0] rfl)

theorem ok_X7_hasName : yX7_hasName.cls ≠ "java/lang/invoke/MethodHandle" ∧ yX7_hasName.cls ≠ "java/lang/invoke/VarHandle" ∧ (parseMethodDescriptor yX7_hasName.desc).map (fun d => d.parameters.length) = some 0 := ⟨by decide +kernel, by decide +kernel, by decide +kernel⟩
abbrev po_X7_hasName (S : St)   : Int → St → Prop := fun r S1 => r = bI (hasS (S.1 0) (S.1 50 0).toNat = true) ∧ S1 = S
abbrev rm_X7_hasName : Room := ({ frames := 0, cells := 0, slots := 0, locals := 0 } : Room)
set_option maxRecDepth 100000 in
set_option maxHeartbeats 4000000 in
theorem k_X7_hasName (l : Launch) (G : Ge) (S : St)   (ht : 0 ≤ S.1 50 0 ∧ S.1 50 0 ≤ 200) (hc : ∀ i : Int, 0 ≤ i → i < S.1 50 0 → 32 ≤ S.1 0 i ∧ S.1 0 i ≤ 126) : Ki (KC G) l yX7_hasName cX7_hasName 2 .boolean rm_X7_hasName [.ref (G.2.2 1)] S (po_X7_hasName S) := by
  refine K_start (own := "NameSeeker$Text") (by decide +kernel) rfl (Nat.le_of_ble_eq_true rfl) ?_
  intro p e s m args below meth c X hr hlk I ls hl
  have hl : lv_has ls 2 [(0, .ref (G.2.2 1))] := hl
  refine ri_const X (v := 0) dX7_hasName_0 ?_
  refine lv_istore_n (lv' := [(1, .int (iI 0)), (0, .ref (G.2.2 1))]) X.1 X.2.1 dX7_hasName_1 rfl hl (by decide) rfl (fun ls hl => ?_)
  have lp_2 : ∀ (n_ : Nat) (k : Int), (200 - k).toNat < n_ → ∀ (hk : 0 ≤ k ∧ k ≤ S.1 50 0) (hI : hasS (S.1 0) k.toNat = false) (H : Heap) (locs : List Loc), In (KC G) s s.heap H locs S → ∀ ls : Array Slot, lv_has ls 2 [(0, .ref (G.2.2 1)), (1, .int (iI k))] → W p l e rm_X7_hasName s m args below meth c H locs 0 0 (MQ below (QI (KC G) (po_X7_hasName S)) args s 0 0 (KC G).2.2.2) (F0 m 2 ls []) := by
    intro n_
    induction n_ with
    | zero => intro k hm; exact absurd hm (by omega)
    | succ n_ ih_2 =>
      intro k hm_2 hk hI H locs I ls hl
      refine lv_iload_n X.1 X.2.1 dX7_hasName_2 rfl (lv_at hl 1 rfl) ?_
      refine lv_aload_n X.1 X.2.1 dX7_hasName_3 rfl (lv_at hl 0 rfl) ?_
      refine gC_text_size X I (v := (S.1 50 0)) rfl tb_44 dX7_hasName_4 ?_
      refine rj_ge (tgt := 29) X (by omega) (by omega) dX7_hasName_7 (by decide) (fun c1 => ?_) (fun c1 => ?_)
      · skip
        refine ri_const X (v := 0) dX7_hasName_29 ?_
        exact rt_i X hr hlk I (by rfl) (by first | (exfalso; omega) | exact (⟨(bI_f (by rw [show (S.1 50 0).toNat = k.toNat by omega, hI]; decide)).symm, rfl⟩)) dX7_hasName_30
      · skip
        have hck := hc k (by omega) (by omega)
        refine lv_aload_n X.1 X.2.1 dX7_hasName_10 rfl (lv_at hl 0 rfl) ?_
        refine gC_text_letters X I tb_43 dX7_hasName_11 ?_
        refine lv_iload_n X.1 X.2.1 dX7_hasName_14 rfl (lv_at hl 1 rfl) ?_
        refine aC_text X I (v := (S.1 0 k)) rfl (by omega) dX7_hasName_15 ?_
        refine ri_push X (v := 115) (by decide) dX7_hasName_16 ?_
        refine rj_ne (tgt := 23) X (by omega) (by omega) dX7_hasName_18 (by decide) (fun c2 => ?_) (fun c2 => ?_)
        · skip
          refine ri_iinc X (k := 1) (v := (k + 1)) (lv' := [(1, .int (iI (k + 1))), (0, .ref (G.2.2 1))]) rfl dX7_hasName_23 hl rfl (by decide) rfl (fun ls hl => ?_)
          refine lv_goto (tgt := 2) X.1 X.2.1 dX7_hasName_26 (by decide) ?_
          exact ih_2 (k + 1) (by omega) (by omega) (hasS_no (by omega) hI (by omega)) _ _ I ls (lv_sub hl [1, 0] rfl)
        · skip
          refine ri_const X (v := 1) dX7_hasName_21 ?_
          exact rt_i X hr hlk I (by rfl) (by first | (exfalso; omega) | exact (⟨(bI_t (hasS_of (k := k) (by omega) (by omega))).symm, rfl⟩)) dX7_hasName_22
  exact lp_2 (201) 0 (by omega) (by omega) (rfl) _ _ I ls (lv_sub hl [1, 0] rfl)

theorem ok_X7_append : yX7_append.cls ≠ "java/lang/invoke/MethodHandle" ∧ yX7_append.cls ≠ "java/lang/invoke/VarHandle" ∧ (parseMethodDescriptor yX7_append.desc).map (fun d => d.parameters.length) = some 1 := ⟨by decide +kernel, by decide +kernel, by decide +kernel⟩
abbrev po_X7_append (S : St)  (x : Int) : St → Prop := fun S1 => S1 = (us (ua S.1 0 (S.1 50 0) x) 50 (S.1 50 0 + 1), S.2)
abbrev rm_X7_append : Room := ({ frames := 0, cells := 0, slots := 0, locals := 0 } : Room)
set_option maxRecDepth 100000 in
set_option maxHeartbeats 4000000 in
theorem k_X7_append (l : Launch) (G : Ge) (S : St)  (x : Int) (hx : 0 ≤ x ∧ x < 65536) (ht : 0 ≤ S.1 50 0 ∧ S.1 50 0 < 200) : Kv (KC G) l yX7_append cX7_append 2 rm_X7_append [.ref (G.2.2 1), .int (iI x)] S (po_X7_append S x) := by
  refine K_start (own := "NameSeeker$Text") (by decide +kernel) rfl (Nat.le_of_ble_eq_true rfl) ?_
  intro p e s m args below meth c X hr hlk I ls hl
  have hl : lv_has ls 2 [(0, .ref (G.2.2 1)), (1, .int (iI x))] := hl
  refine lv_aload_n X.1 X.2.1 dX7_append_0 rfl (lv_at hl 0 rfl) ?_
  refine gC_text_size X I (v := (S.1 50 0)) rfl tb_44 dX7_append_1 ?_
  refine ri_spush X (v := 200) (by decide) dX7_append_4 ?_
  refine rj_ge (tgt := 30) X (by omega) (by omega) dX7_append_7 (by decide) (fun c1 => absurd c1 (by omega)) (fun _ => ?_)
  refine lv_aload_n X.1 X.2.1 dX7_append_10 rfl (lv_at hl 0 rfl) ?_
  refine gC_text_letters X I tb_43 dX7_append_11 ?_
  refine lv_aload_n X.1 X.2.1 dX7_append_14 rfl (lv_at hl 0 rfl) ?_
  refine gC_text_size X I (v := (S.1 50 0)) rfl tb_44 dX7_append_15 ?_
  refine lv_iload_n X.1 X.2.1 dX7_append_18 rfl (lv_at hl 1 rfl) ?_
  refine qC_text X I (by omega) (by omega) dX7_append_19 (fun H locs I => ?_)
  have I : In (KC G) s s.heap H locs ((ua S.1 0 (S.1 50 0) x), S.2) := I
  refine lv_aload_n X.1 X.2.1 dX7_append_20 rfl (lv_at hl 0 rfl) ?_
  refine lv_dup X.1 X.2.1 dX7_append_21 rfl ?_
  refine gC_text_size X I (v := (S.1 50 0)) (by first | rfl | (simp [us_at, ua_at]; done) | (simp only [us_at, ua_at]; repeat' (first | rw [if_neg (by omega)] | rw [if_pos (by omega)]); done)) tb_44 dX7_append_22 ?_
  refine ri_const X (v := 1) dX7_append_25 ?_
  refine ri_add X (v := ((S.1 50 0) + 1)) rfl dX7_append_26 ?_
  refine pC_text_size X I tb_44 dX7_append_27 (fun H locs I => ?_)
  have I : In (KC G) s s.heap H locs ((us (ua S.1 0 (S.1 50 0) x) 50 ((S.1 50 0) + 1)), S.2) := I
  exact rt_v X hr hlk I (by first | (exfalso; omega) | exact (rfl)) dX7_append_30

theorem ok_X7_clear : yX7_clear.cls ≠ "java/lang/invoke/MethodHandle" ∧ yX7_clear.cls ≠ "java/lang/invoke/VarHandle" ∧ (parseMethodDescriptor yX7_clear.desc).map (fun d => d.parameters.length) = some 0 := ⟨by decide +kernel, by decide +kernel, by decide +kernel⟩
abbrev po_X7_clear (S : St)   : Int → St → Prop := fun r S1 => r = S.1 50 0 ∧ S1 = (us S.1 50 0, S.2)
abbrev rm_X7_clear : Room := ({ frames := 0, cells := 0, slots := 0, locals := 0 } : Room)
set_option maxRecDepth 100000 in
set_option maxHeartbeats 4000000 in
theorem k_X7_clear (l : Launch) (G : Ge) (S : St)    : Ki (KC G) l yX7_clear cX7_clear 2 .int rm_X7_clear [.ref (G.2.2 1)] S (po_X7_clear S) := by
  refine K_start (own := "NameSeeker$Text") (by decide +kernel) rfl (Nat.le_of_ble_eq_true rfl) ?_
  intro p e s m args below meth c X hr hlk I ls hl
  have hl : lv_has ls 2 [(0, .ref (G.2.2 1))] := hl
  refine lv_aload_n X.1 X.2.1 dX7_clear_0 rfl (lv_at hl 0 rfl) ?_
  refine gC_text_size X I (v := (S.1 50 0)) rfl tb_44 dX7_clear_1 ?_
  refine lv_istore_n (lv' := [(1, .int (iI (S.1 50 0))), (0, .ref (G.2.2 1))]) X.1 X.2.1 dX7_clear_4 rfl hl (by decide) rfl (fun ls hl => ?_)
  refine lv_aload_n X.1 X.2.1 dX7_clear_5 rfl (lv_at hl 1 rfl) ?_
  refine ri_const X (v := 0) dX7_clear_6 ?_
  refine pC_text_size X I tb_44 dX7_clear_7 (fun H locs I => ?_)
  have I : In (KC G) s s.heap H locs ((us S.1 50 0), S.2) := I
  refine lv_iload_n X.1 X.2.1 dX7_clear_10 rfl (lv_at hl 0 rfl) ?_
  exact rt_i X hr hlk I rfl (by first | (exfalso; omega) | exact (⟨rfl, rfl⟩)) dX7_clear_11
