/-! how many bits: as the machine counts, and one by one -/
def bc1 (v : Nat) : Nat := v - (v / 2 &&& 1431655765)
def bc2 (v : Nat) : Nat := (v &&& 858993459) + (v / 4 &&& 858993459)
def bc3 (v : Nat) : Nat := (v + v / 16) &&& 252645135
def bc4 (v : Nat) : Nat := v + v / 256
def bc5 (v : Nat) : Nat := v + v / 65536
def bcN (v : Nat) : Nat := bc5 (bc4 (bc3 (bc2 (bc1 v)))) &&& 63
def bcv (z : Int) : Int := ((bcN z.toNat : Nat) : Int)
theorem bc_and {a m h k : Nat} (ha : a < 256) (hm : m < 256) : (256 * h + a) &&& (256 * k + m) = 256 * (h &&& k) + (a &&& m) := by
  have hl : a &&& m < 2 ^ 8 := Nat.lt_of_le_of_lt Nat.and_le_left ha
  apply Nat.eq_of_testBit_eq
  intro j
  rw [Nat.testBit_and, show 256 = 2 ^ 8 from rfl, Nat.testBit_two_pow_mul_add h ha, Nat.testBit_two_pow_mul_add k hm, Nat.testBit_two_pow_mul_add (h &&& k) hl]
  split
  · rw [Nat.testBit_and]
  · rw [Nat.testBit_and]
def pk4 (a b c d : Nat) : Nat := 256 * (256 * (256 * d + c) + b) + a
theorem pk4_and {a b c d m : Nat} (ha : a < 256) (hb : b < 256) (hc : c < 256) (hm : m < 256) : pk4 a b c d &&& pk4 m m m m = pk4 (a &&& m) (b &&& m) (c &&& m) (d &&& m) := by
  unfold pk4
  rw [bc_and ha hm, bc_and hb hm, bc_and hc hm]
def e1 (b t : Nat) : Nat := (b / 2 + 128 * t) &&& 85
def f1 (b : Nat) : Nat := b - (b / 2 &&& 85)
def f2 (b : Nat) : Nat := (b &&& 51) + (b / 4 &&& 51)
def f3 (b : Nat) : Nat := (b + b / 16) % 16
def ct8 (b : Nat) : Nat := b % 2 + b / 2 % 2 + b / 4 % 2 + b / 8 % 2 + b / 16 % 2 + b / 32 % 2 + b / 64 % 2 + b / 128 % 2
theorem e1_at : ∀ b, b < 256 → ∀ t, t < 2 → e1 b t = (b / 2 &&& 85) ∧ e1 b t ≤ b := by decide +kernel
theorem f1_lt : ∀ b, b < 256 → f1 b < 256 := by decide +kernel
theorem f2_at : ∀ b, b < 256 → ∀ t, t < 4 → ((b / 4 + 64 * t) &&& 51) = (b / 4 &&& 51) := by decide +kernel
theorem f2_lt : ∀ b, b < 256 → f2 (f1 b) ≤ 68 ∧ f2 (f1 b) % 16 ≤ 4 ∧ f3 (f2 (f1 b)) = ct8 b ∧ ct8 b ≤ 8 := by decide +kernel
theorem bc1_pk {a b c d : Nat} (ha : a < 256) (hb : b < 256) (hc : c < 256) (hd : d < 256) : bc1 (pk4 a b c d) = pk4 (f1 a) (f1 b) (f1 c) (f1 d) := by
  have e : pk4 a b c d / 2 = pk4 (a / 2 + 128 * (b % 2)) (b / 2 + 128 * (c % 2)) (c / 2 + 128 * (d % 2)) (d / 2 + 128 * 0) := by unfold pk4; omega
  have q1 := e1_at a ha (b % 2) (by omega)
  have q2 := e1_at b hb (c % 2) (by omega)
  have q3 := e1_at c hc (d % 2) (by omega)
  have q4 := e1_at d hd 0 (by omega)
  unfold bc1
  rw [e, show (1431655765 : Nat) = pk4 85 85 85 85 from rfl, pk4_and (by omega) (by omega) (by omega) (by omega)]
  show pk4 a b c d - pk4 (e1 a (b % 2)) (e1 b (c % 2)) (e1 c (d % 2)) (e1 d 0) = _
  unfold f1
  rw [← q1.1, ← q2.1, ← q3.1, ← q4.1]
  unfold pk4
  omega
theorem bc2_pk {a b c d : Nat} (ha : a < 256) (hb : b < 256) (hc : c < 256) (hd : d < 256) : bc2 (pk4 a b c d) = pk4 (f2 a) (f2 b) (f2 c) (f2 d) := by
  have e : pk4 a b c d / 4 = pk4 (a / 4 + 64 * (b % 4)) (b / 4 + 64 * (c % 4)) (c / 4 + 64 * (d % 4)) (d / 4 + 64 * 0) := by unfold pk4; omega
  have q1 := f2_at a ha (b % 4) (by omega)
  have q2 := f2_at b hb (c % 4) (by omega)
  have q3 := f2_at c hc (d % 4) (by omega)
  have q4 := f2_at d hd 0 (by omega)
  unfold bc2
  rw [e, show (858993459 : Nat) = pk4 51 51 51 51 from rfl, pk4_and ha hb hc (by omega), pk4_and (by omega) (by omega) (by omega) (by omega), q1, q2, q3, q4]
  unfold f2 pk4
  omega
theorem bc3_pk {a b c d : Nat} (ha : a ≤ 68) (hb : b ≤ 68) (hc : c ≤ 68) (hd : d ≤ 68) (hb2 : b % 16 ≤ 4) (hc2 : c % 16 ≤ 4) (hd2 : d % 16 ≤ 4) : bc3 (pk4 a b c d) = pk4 (f3 a) (f3 b) (f3 c) (f3 d) := by
  have e : pk4 a b c d + pk4 a b c d / 16 = pk4 (a + (a / 16 + 16 * (b % 16))) (b + (b / 16 + 16 * (c % 16))) (c + (c / 16 + 16 * (d % 16))) (d + d / 16) := by unfold pk4; omega
  have q : ∀ x : Nat, x &&& 15 = x % 16 := fun x => Nat.and_two_pow_sub_one_eq_mod x 4
  unfold bc3
  rw [e, show (252645135 : Nat) = pk4 15 15 15 15 from rfl, pk4_and (by omega) (by omega) (by omega) (by omega), q, q, q, q]
  unfold f3 pk4
  omega
theorem bcN_pk {a b c d : Nat} (ha : a < 256) (hb : b < 256) (hc : c < 256) (hd : d < 256) : bcN (pk4 a b c d) = ct8 a + ct8 b + ct8 c + ct8 d := by
  obtain ⟨a1, a2, a3, a4⟩ := f2_lt a ha
  obtain ⟨b1, b2, b3, b4⟩ := f2_lt b hb
  obtain ⟨c1, c2, c3, c4⟩ := f2_lt c hc
  obtain ⟨d1, d2, d3, d4⟩ := f2_lt d hd
  unfold bcN
  rw [bc1_pk ha hb hc hd, bc2_pk (f1_lt a ha) (f1_lt b hb) (f1_lt c hc) (f1_lt d hd), bc3_pk a1 b1 c1 d1 b2 c2 d2, a3, b3, c3, d3, show ∀ x : Nat, x &&& 63 = x % 64 from fun x => Nat.and_two_pow_sub_one_eq_mod x 6]
  generalize ct8 a = p at a4 ⊢
  generalize ct8 b = q at b4 ⊢
  generalize ct8 c = r at c4 ⊢
  generalize ct8 d = s at d4 ⊢
  have h1 : bc4 (pk4 p q r s) = (p + q) + 256 * (q + r) + 65536 * (r + s) + 16777216 * s := by
    have e : pk4 p q r s / 256 = 256 * (256 * s + r) + q := by unfold pk4; omega
    unfold bc4; rw [e]; unfold pk4; omega
  have h2 : bc5 (bc4 (pk4 p q r s)) = (p + q + r + s) + 256 * (q + r + s) + 65536 * (r + s) + 16777216 * s := by
    rw [h1]
    have e : ((p + q) + 256 * (q + r) + 65536 * (r + s) + 16777216 * s) / 65536 = (r + s) + 256 * s := by omega
    unfold bc5; rw [e]; omega
  rw [h2]
  omega
def ctb (f : Nat → Bool) : Nat → Nat
  | 0 => 0
  | n + 1 => ctb f n + (if f n then 1 else 0)
theorem ctb_congr {f g : Nat → Bool} : ∀ n : Nat, (∀ i, i < n → f i = g i) → ctb f n = ctb g n
  | 0, _ => rfl
  | n + 1, h => by rw [ctb, ctb, ctb_congr n (fun i hi => h i (by omega)), h n (by omega)]
theorem ctb_add (f : Nat → Bool) (m : Nat) : ∀ n : Nat, ctb f (m + n) = ctb f m + ctb (fun i => f (m + i)) n
  | 0 => by rw [ctb]; rfl
  | n + 1 => by rw [← Nat.add_assoc, ctb, ctb, ctb_add f m n]; omega
theorem ctb_0 {f : Nat → Bool} : ∀ n : Nat, (∀ i, i < n → f i = false) → ctb f n = 0
  | 0, _ => rfl
  | n + 1, h => by rw [ctb, ctb_0 n (fun i hi => h i (by omega)), h n (by omega)]; rfl
theorem ct8_ctb : ∀ b, b < 256 → ct8 b = ctb b.testBit 8 := by decide +kernel
theorem ct8_of (n j : Nat) : ct8 (n / 2 ^ j % 256) = ctb (fun i => n.testBit (j + i)) 8 := by
  rw [ct8_ctb _ (Nat.mod_lt _ (by decide))]
  refine ctb_congr 8 (fun i hi => ?_)
  rw [show (256 : Nat) = 2 ^ 8 from rfl, Nat.testBit_mod_two_pow, Nat.testBit_div_two_pow, decide_eq_true hi, Bool.true_and, Nat.add_comm]
theorem bcN_ctb {n : Nat} (hn : n < 4294967296) : bcN n = ctb n.testBit 32 := by
  have e : n = pk4 (n / 2 ^ 0 % 256) (n / 2 ^ 8 % 256) (n / 2 ^ 16 % 256) (n / 2 ^ 24 % 256) := by unfold pk4; omega
  have h := bcN_pk (a := n / 2 ^ 0 % 256) (b := n / 2 ^ 8 % 256) (c := n / 2 ^ 16 % 256) (d := n / 2 ^ 24 % 256) (Nat.mod_lt _ (by decide)) (Nat.mod_lt _ (by decide)) (Nat.mod_lt _ (by decide)) (Nat.mod_lt _ (by decide))
  rw [← e, ct8_of, ct8_of, ct8_of, ct8_of] at h
  rw [h, show (32 : Nat) = 8 + (8 + (8 + 8)) from rfl, ctb_add, ctb_add, ctb_add]
  simp only [← Nat.add_assoc, Nat.zero_add]
theorem bcN_26 {n : Nat} (hn : n < 67108864) : bcN n = ctb n.testBit 26 := by
  rw [bcN_ctb (by omega), show (32 : Nat) = 26 + 6 from rfl, ctb_add]
  have q : ∀ i : Nat, n.testBit (26 + i) = false := fun i => Nat.testBit_lt_two_pow (Nat.lt_of_lt_of_le (show n < 2 ^ 26 from hn) (Nat.pow_le_pow_right (by decide) (by omega)))
  rw [ctb_0 6 (fun i _ => q i), Nat.add_zero]
/-- the letters that both have -/
theorem hsL_bit {s : Int → Int} {n : Nat} (hs : ∀ q : Nat, q < n → sgn (s q)) {i : Nat} (hi : i < 26) : hsL s (97 + (i : Int)) n = (lbv s n).toNat.testBit i := by
  have hx : ltr (97 + (i : Int)) := Or.inl (by omega)
  have h : hsL s (97 + (i : Int)) n = true ↔ (lbv s n).toNat.testBit i = true := by
    rw [hsL_iff, lbv_bit]
    have e1 : lowv (97 + (i : Int)) = 97 + (i : Int) := by unfold lowv; rw [if_neg (by omega)]
    have e2 : (lnum (97 + (i : Int))).toNat = i := by unfold lnum; rw [if_pos (by omega)]; omega
    constructor
    · rintro ⟨q, hq, e⟩
      have := (low_ltr (hs q hq) hx).mp (e.trans e1.symm)
      rw [e2] at this
      exact ⟨q, hq, this⟩
    · rintro ⟨q, hq, e⟩
      have := (low_ltr (hs q hq) hx).mpr (by rw [e2]; exact e)
      exact ⟨q, hq, this.trans e1⟩
  cases h1 : hsL s (97 + (i : Int)) n <;> cases h2 : (lbv s n).toNat.testBit i
  · rfl
  · rw [h1, h2] at h; exact absurd (h.mpr rfl) (by decide)
  · rw [h1, h2] at h; exact absurd (h.mp rfl) (by decide)
  · rfl
theorem prM_ctb {s t : Int → Int} {n m : Nat} (hs : ∀ q : Nat, q < n → sgn (s q)) (ht : ∀ q : Nat, q < m → sgn (t q)) : ∀ k : Nat, k ≤ 26 → prM s n t m k = ((ctb ((lbv s n).toNat &&& (lbv t m).toNat).testBit k : Nat) : Int)
  | 0, _ => rfl
  | k + 1, h => by
    rw [prM, ctb, prM_ctb hs ht k (by omega), hsL_bit hs (by omega), hsL_bit ht (by omega), Nat.testBit_and]
    cases (lbv s n).toNat.testBit k <;> cases (lbv t m).toNat.testBit k <;> simp
theorem lbv_26 (s : Int → Int) (n : Nat) : (lbv s n).toNat < 67108864 := by
  refine Nat.lt_pow_two_of_testBit (n := 26) _ (fun i hi => ?_)
  cases h : (lbv s n).toNat.testBit i with
  | false => rfl
  | true =>
    obtain ⟨q, -, h1, h2⟩ := (lbv_bit s i n).mp h
    unfold lnum at h2
    unfold ltr at h1
    split at h2 <;> omega
theorem pair_iff {s t : Int → Int} {n m : Nat} (hs : ∀ q : Nat, q < n → sgn (s q)) (ht : ∀ q : Nat, q < m → sgn (t q)) : bcv (band (lbv s n) (lbv t m)) = prM s n t m 26 := by
  unfold bcv band
  rw [prM_ctb hs ht 26 (by omega), Int.toNat_natCast, bcN_26 (Nat.lt_of_le_of_lt Nat.and_le_left (lbv_26 s n))]

theorem dJ6_bitCount_0f7a4_0 : decode cJ6_bitCount_0f7a4 0 = .ok (.iload_n 0, 1) := by decide +kernel
theorem dJ6_bitCount_0f7a4_1 : decode cJ6_bitCount_0f7a4 1 = .ok (.iload_n 0, 1) := by decide +kernel
theorem dJ6_bitCount_0f7a4_2 : decode cJ6_bitCount_0f7a4 2 = .ok (.iconst 1, 1) := by decide +kernel
theorem dJ6_bitCount_0f7a4_3 : decode cJ6_bitCount_0f7a4 3 = .ok (.iushr, 1) := by decide +kernel
theorem dJ6_bitCount_0f7a4_4 : decode cJ6_bitCount_0f7a4 4 = .ok (.ldc_w 265, 3) := by decide +kernel
theorem dJ6_bitCount_0f7a4_7 : decode cJ6_bitCount_0f7a4 7 = .ok (.iand, 1) := by decide +kernel
theorem dJ6_bitCount_0f7a4_8 : decode cJ6_bitCount_0f7a4 8 = .ok (.isub, 1) := by decide +kernel
theorem dJ6_bitCount_0f7a4_9 : decode cJ6_bitCount_0f7a4 9 = .ok (.istore_n 0, 1) := by decide +kernel
theorem dJ6_bitCount_0f7a4_10 : decode cJ6_bitCount_0f7a4 10 = .ok (.iload_n 0, 1) := by decide +kernel
theorem dJ6_bitCount_0f7a4_11 : decode cJ6_bitCount_0f7a4 11 = .ok (.ldc_w 266, 3) := by decide +kernel
theorem dJ6_bitCount_0f7a4_14 : decode cJ6_bitCount_0f7a4 14 = .ok (.iand, 1) := by decide +kernel
theorem dJ6_bitCount_0f7a4_15 : decode cJ6_bitCount_0f7a4 15 = .ok (.iload_n 0, 1) := by decide +kernel
theorem dJ6_bitCount_0f7a4_16 : decode cJ6_bitCount_0f7a4 16 = .ok (.iconst 2, 1) := by decide +kernel
theorem dJ6_bitCount_0f7a4_17 : decode cJ6_bitCount_0f7a4 17 = .ok (.iushr, 1) := by decide +kernel
theorem dJ6_bitCount_0f7a4_18 : decode cJ6_bitCount_0f7a4 18 = .ok (.ldc_w 266, 3) := by decide +kernel
theorem dJ6_bitCount_0f7a4_21 : decode cJ6_bitCount_0f7a4 21 = .ok (.iand, 1) := by decide +kernel
theorem dJ6_bitCount_0f7a4_22 : decode cJ6_bitCount_0f7a4 22 = .ok (.iadd, 1) := by decide +kernel
theorem dJ6_bitCount_0f7a4_23 : decode cJ6_bitCount_0f7a4 23 = .ok (.istore_n 0, 1) := by decide +kernel
theorem dJ6_bitCount_0f7a4_24 : decode cJ6_bitCount_0f7a4 24 = .ok (.iload_n 0, 1) := by decide +kernel
theorem dJ6_bitCount_0f7a4_25 : decode cJ6_bitCount_0f7a4 25 = .ok (.iload_n 0, 1) := by decide +kernel
theorem dJ6_bitCount_0f7a4_26 : decode cJ6_bitCount_0f7a4 26 = .ok (.iconst 4, 1) := by decide +kernel
theorem dJ6_bitCount_0f7a4_27 : decode cJ6_bitCount_0f7a4 27 = .ok (.iushr, 1) := by decide +kernel
theorem dJ6_bitCount_0f7a4_28 : decode cJ6_bitCount_0f7a4 28 = .ok (.iadd, 1) := by decide +kernel
theorem dJ6_bitCount_0f7a4_29 : decode cJ6_bitCount_0f7a4 29 = .ok (.ldc_w 267, 3) := by decide +kernel
theorem dJ6_bitCount_0f7a4_32 : decode cJ6_bitCount_0f7a4 32 = .ok (.iand, 1) := by decide +kernel
theorem dJ6_bitCount_0f7a4_33 : decode cJ6_bitCount_0f7a4 33 = .ok (.istore_n 0, 1) := by decide +kernel
theorem dJ6_bitCount_0f7a4_34 : decode cJ6_bitCount_0f7a4 34 = .ok (.iload_n 0, 1) := by decide +kernel
theorem dJ6_bitCount_0f7a4_35 : decode cJ6_bitCount_0f7a4 35 = .ok (.iload_n 0, 1) := by decide +kernel
theorem dJ6_bitCount_0f7a4_36 : decode cJ6_bitCount_0f7a4 36 = .ok (.bipush 8, 2) := by decide +kernel
theorem dJ6_bitCount_0f7a4_38 : decode cJ6_bitCount_0f7a4 38 = .ok (.iushr, 1) := by decide +kernel
theorem dJ6_bitCount_0f7a4_39 : decode cJ6_bitCount_0f7a4 39 = .ok (.iadd, 1) := by decide +kernel
theorem dJ6_bitCount_0f7a4_40 : decode cJ6_bitCount_0f7a4 40 = .ok (.istore_n 0, 1) := by decide +kernel
theorem dJ6_bitCount_0f7a4_41 : decode cJ6_bitCount_0f7a4 41 = .ok (.iload_n 0, 1) := by decide +kernel
theorem dJ6_bitCount_0f7a4_42 : decode cJ6_bitCount_0f7a4 42 = .ok (.iload_n 0, 1) := by decide +kernel
theorem dJ6_bitCount_0f7a4_43 : decode cJ6_bitCount_0f7a4 43 = .ok (.bipush 16, 2) := by decide +kernel
theorem dJ6_bitCount_0f7a4_45 : decode cJ6_bitCount_0f7a4 45 = .ok (.iushr, 1) := by decide +kernel
theorem dJ6_bitCount_0f7a4_46 : decode cJ6_bitCount_0f7a4 46 = .ok (.iadd, 1) := by decide +kernel
theorem dJ6_bitCount_0f7a4_47 : decode cJ6_bitCount_0f7a4 47 = .ok (.istore_n 0, 1) := by decide +kernel
theorem dJ6_bitCount_0f7a4_48 : decode cJ6_bitCount_0f7a4 48 = .ok (.iload_n 0, 1) := by decide +kernel
theorem dJ6_bitCount_0f7a4_49 : decode cJ6_bitCount_0f7a4 49 = .ok (.bipush 63, 2) := by decide +kernel
theorem dJ6_bitCount_0f7a4_51 : decode cJ6_bitCount_0f7a4 51 = .ok (.iand, 1) := by decide +kernel
theorem dJ6_bitCount_0f7a4_52 : decode cJ6_bitCount_0f7a4 52 = .ok (.ireturn, 1) := by decide +kernel
set_option maxRecDepth 100000 in
theorem tb_50 : (Jvm.Cond.initialized "java/lang/Integer") ∈ TB := tbI 50 rfl rfl
set_option maxRecDepth 100000 in
theorem tb_666 : (Jvm.Cond.methodLink "NameSeeker" (254 : Nat) ({ cls := "java/lang/Integer", name := "bitCount", desc := "(I)I" } : Jvm.MethodName)) ∈ TB := tbI 666 rfl rfl
set_option maxRecDepth 100000 in
theorem tb_667 : (Jvm.Cond.static ({ cls := "java/lang/Integer", name := "bitCount", desc := "(I)I" } : Jvm.MethodName)) ∈ TB := tbI 667 rfl rfl
set_option maxRecDepth 100000 in
theorem tb_668 : (Jvm.Cond.code ({ cls := "java/lang/Integer", name := "bitCount", desc := "(I)I" } : Jvm.MethodName) prog_13_method_49_code (1 : Nat) (Option.some Jvm.ClassFile.FieldType.int)) ∈ TB := tbI 668 rfl rfl
set_option maxRecDepth 100000 in
theorem tb_669 : (Jvm.Cond.constant "java/lang/Integer" (265 : Nat) (1431655765 : Int32)) ∈ TB := tbI 669 rfl rfl
set_option maxRecDepth 100000 in
theorem tb_670 : (Jvm.Cond.constant "java/lang/Integer" (266 : Nat) (858993459 : Int32)) ∈ TB := tbI 670 rfl rfl
set_option maxRecDepth 100000 in
theorem tb_671 : (Jvm.Cond.constant "java/lang/Integer" (267 : Nat) (252645135 : Int32)) ∈ TB := tbI 671 rfl rfl
set_option maxRecDepth 100000 in
theorem ok_bitCount : yJ6_bitCount_0f7a4.cls ≠ "java/lang/invoke/MethodHandle" ∧ yJ6_bitCount_0f7a4.cls ≠ "java/lang/invoke/VarHandle" ∧ (parseMethodDescriptor yJ6_bitCount_0f7a4.desc).map (fun d => d.parameters.length) = some 1 := ⟨by decide +kernel, by decide +kernel, by decide +kernel⟩
theorem bc_sh (n k : Nat) (hn : n < 4294967296) (hk : k < 32) : ((nI n).toUInt32 >>> ((nI k).toUInt32 &&& Int32.toUInt32 31)).toInt32 = nI (n / 2 ^ k) := pk_ushrN hn (nI k) k ((by decide +kernel : ∀ k, k < 32 → (((nI k).toUInt32 &&& Int32.toUInt32 31).toBitVec % 32).toNat = k) k hk)
abbrev rm_bitCount : Room := ({ frames := 1, cells := 0, slots := 0, locals := 0 } : Room)
set_option maxRecDepth 100000 in
set_option maxHeartbeats 4000000 in
theorem k_bitCount (l : Launch) (K : Sd) (S : St) (x : Int) (hx : 0 ≤ x ∧ x < 2147483648) : Ki K l yJ6_bitCount_0f7a4 cJ6_bitCount_0f7a4 1 .int rm_bitCount [.int (iI x)] S (fun r S1 => r = bcv x ∧ S1 = S) := by
  refine K_start (own := "java/lang/Integer") (by decide +kernel) rfl (Nat.le_of_ble_eq_true rfl) ?_
  intro p e s m args below meth c X hr hlk I ls hl
  have hl : lv_has ls 1 [(0, .int (iI x))] := hl
  obtain ⟨n, rfl⟩ : ∃ n : Nat, x = n := ⟨x.toNat, by omega⟩
  have hn : n < 2147483648 := by omega
  rw [iI_nat] at hl
  have r1 : bc1 n ≤ n := Nat.sub_le _ _
  have r2 : bc2 (bc1 n) < 2147483648 := by
    have h1 : bc1 n &&& 858993459 ≤ 858993459 := Nat.and_le_right
    have h2 : bc1 n / 4 &&& 858993459 ≤ 858993459 := Nat.and_le_right
    unfold bc2; omega
  have r3 : bc3 (bc2 (bc1 n)) ≤ 252645135 := Nat.and_le_right
  have r4 : bc4 (bc3 (bc2 (bc1 n))) < 2147483648 := by unfold bc4; omega
  have r5 : bc5 (bc4 (bc3 (bc2 (bc1 n)))) < 4294967296 := by unfold bc5; omega
  refine lv_iload_n X.1 X.2.1 dJ6_bitCount_0f7a4_0 rfl (lv_at hl 0 rfl) ?_
  refine lv_iload_n X.1 X.2.1 dJ6_bitCount_0f7a4_1 rfl (lv_at hl 0 rfl) ?_
  refine lv_iconst (v := nI 1) X.1 X.2.1 dJ6_bitCount_0f7a4_2 (by decide) ?_
  refine lv_iushr (v := nI (n / 2 ^ 1)) X.1 X.2.1 dJ6_bitCount_0f7a4_3 (bc_sh n 1 (by omega) (by decide)) ?_
  refine lv_ldcw (own := "java/lang/Integer") (v := nI 1431655765) X.1 X.2.1 X.2.2.2.1 (X.2.2.2.2 _ tb_669) dJ6_bitCount_0f7a4_4 ?_
  refine lv_iand X.1 X.2.1 dJ6_bitCount_0f7a4_7 ?_
  rw [zz_and]
  refine lv_isub X.1 X.2.1 dJ6_bitCount_0f7a4_8 ?_
  rw [pk_sub (Nat.le_trans Nat.and_le_left (Nat.div_le_self _ _))]
  refine lv_istore_n (lv' := [(0, .int (nI (bc1 n)))]) X.1 X.2.1 dJ6_bitCount_0f7a4_9 rfl hl (by decide) rfl (fun ls hl => ?_)
  refine lv_iload_n X.1 X.2.1 dJ6_bitCount_0f7a4_10 rfl (lv_at hl 0 rfl) ?_
  refine lv_ldcw (own := "java/lang/Integer") (v := nI 858993459) X.1 X.2.1 X.2.2.2.1 (X.2.2.2.2 _ tb_670) dJ6_bitCount_0f7a4_11 ?_
  refine lv_iand X.1 X.2.1 dJ6_bitCount_0f7a4_14 ?_
  rw [zz_and]
  refine lv_iload_n X.1 X.2.1 dJ6_bitCount_0f7a4_15 rfl (lv_at hl 0 rfl) ?_
  refine lv_iconst (v := nI 2) X.1 X.2.1 dJ6_bitCount_0f7a4_16 (by decide) ?_
  refine lv_iushr (v := nI ((bc1 n) / 2 ^ 2)) X.1 X.2.1 dJ6_bitCount_0f7a4_17 (bc_sh (bc1 n) 2 (by omega) (by decide)) ?_
  refine lv_ldcw (own := "java/lang/Integer") (v := nI 858993459) X.1 X.2.1 X.2.2.2.1 (X.2.2.2.2 _ tb_670) dJ6_bitCount_0f7a4_18 ?_
  refine lv_iand X.1 X.2.1 dJ6_bitCount_0f7a4_21 ?_
  rw [zz_and]
  refine lv_iadd X.1 X.2.1 dJ6_bitCount_0f7a4_22 ?_
  rw [nI_add]
  refine lv_istore_n (lv' := [(0, .int (nI (bc2 (bc1 n))))]) X.1 X.2.1 dJ6_bitCount_0f7a4_23 rfl hl (by decide) rfl (fun ls hl => ?_)
  refine lv_iload_n X.1 X.2.1 dJ6_bitCount_0f7a4_24 rfl (lv_at hl 0 rfl) ?_
  refine lv_iload_n X.1 X.2.1 dJ6_bitCount_0f7a4_25 rfl (lv_at hl 0 rfl) ?_
  refine lv_iconst (v := nI 4) X.1 X.2.1 dJ6_bitCount_0f7a4_26 (by decide) ?_
  refine lv_iushr (v := nI ((bc2 (bc1 n)) / 2 ^ 4)) X.1 X.2.1 dJ6_bitCount_0f7a4_27 (bc_sh (bc2 (bc1 n)) 4 (by omega) (by decide)) ?_
  refine lv_iadd X.1 X.2.1 dJ6_bitCount_0f7a4_28 ?_
  rw [nI_add]
  refine lv_ldcw (own := "java/lang/Integer") (v := nI 252645135) X.1 X.2.1 X.2.2.2.1 (X.2.2.2.2 _ tb_671) dJ6_bitCount_0f7a4_29 ?_
  refine lv_iand X.1 X.2.1 dJ6_bitCount_0f7a4_32 ?_
  rw [zz_and]
  refine lv_istore_n (lv' := [(0, .int (nI (bc3 (bc2 (bc1 n)))))]) X.1 X.2.1 dJ6_bitCount_0f7a4_33 rfl hl (by decide) rfl (fun ls hl => ?_)
  refine lv_iload_n X.1 X.2.1 dJ6_bitCount_0f7a4_34 rfl (lv_at hl 0 rfl) ?_
  refine lv_iload_n X.1 X.2.1 dJ6_bitCount_0f7a4_35 rfl (lv_at hl 0 rfl) ?_
  refine lv_bipush (v := nI 8) X.1 X.2.1 dJ6_bitCount_0f7a4_36 (by decide) ?_
  refine lv_iushr (v := nI ((bc3 (bc2 (bc1 n))) / 2 ^ 8)) X.1 X.2.1 dJ6_bitCount_0f7a4_38 (bc_sh (bc3 (bc2 (bc1 n))) 8 (by omega) (by decide)) ?_
  refine lv_iadd X.1 X.2.1 dJ6_bitCount_0f7a4_39 ?_
  rw [nI_add]
  refine lv_istore_n (lv' := [(0, .int (nI (bc4 (bc3 (bc2 (bc1 n))))))]) X.1 X.2.1 dJ6_bitCount_0f7a4_40 rfl hl (by decide) rfl (fun ls hl => ?_)
  refine lv_iload_n X.1 X.2.1 dJ6_bitCount_0f7a4_41 rfl (lv_at hl 0 rfl) ?_
  refine lv_iload_n X.1 X.2.1 dJ6_bitCount_0f7a4_42 rfl (lv_at hl 0 rfl) ?_
  refine lv_bipush (v := nI 16) X.1 X.2.1 dJ6_bitCount_0f7a4_43 (by decide) ?_
  refine lv_iushr (v := nI ((bc4 (bc3 (bc2 (bc1 n)))) / 2 ^ 16)) X.1 X.2.1 dJ6_bitCount_0f7a4_45 (bc_sh (bc4 (bc3 (bc2 (bc1 n)))) 16 (by omega) (by decide)) ?_
  refine lv_iadd X.1 X.2.1 dJ6_bitCount_0f7a4_46 ?_
  rw [nI_add]
  refine lv_istore_n (lv' := [(0, .int (nI (bc5 (bc4 (bc3 (bc2 (bc1 n)))))))]) X.1 X.2.1 dJ6_bitCount_0f7a4_47 rfl hl (by decide) rfl (fun ls hl => ?_)
  refine lv_iload_n X.1 X.2.1 dJ6_bitCount_0f7a4_48 rfl (lv_at hl 0 rfl) ?_
  refine lv_bipush (v := nI 63) X.1 X.2.1 dJ6_bitCount_0f7a4_49 (by decide) ?_
  refine lv_iand X.1 X.2.1 dJ6_bitCount_0f7a4_51 ?_
  rw [zz_and]
  rw [← iI_nat]
  exact rt_i X hr hlk I rfl ⟨by unfold bcv bcN; rfl, rfl⟩ dJ6_bitCount_0f7a4_52
theorem ok_X9_pair : yX9_pair.cls ≠ "java/lang/invoke/MethodHandle" ∧ yX9_pair.cls ≠ "java/lang/invoke/VarHandle" ∧ (parseMethodDescriptor yX9_pair.desc).map (fun d => d.parameters.length) = some 2 := ⟨by decide +kernel, by decide +kernel, by decide +kernel⟩
abbrev po_X9_pair (S : St)  (x : Int) (u : Int) : Int → St → Prop := fun r S1 => ((¬ (0 ≤ x ∧ x < S.1 51 0) ∨ ¬ (0 ≤ u ∧ u < S.1 51 0)) ∧ r = -1 ∧ S1 = S) ∨ ((0 ≤ x ∧ x < S.1 51 0) ∧ (0 ≤ u ∧ u < S.1 51 0) ∧ r = bcv (band (S.1 7 ((S.2 x.toNat : Nat) : Int)) (S.1 7 ((S.2 u.toNat : Nat) : Int))) ∧ S1 = S)
abbrev rm_X9_pair : Room := ({ frames := 2, cells := 0, slots := 0, locals := 40 } : Room)
set_option maxRecDepth 100000 in
set_option maxHeartbeats 4000000 in
theorem k_X9_pair (l : Launch) (G : Ge) (S : St)  (x : Int) (u : Int)  (hx : -2147483648 ≤ x ∧ x < 2147483648) (hu : -2147483648 ≤ u ∧ u < 2147483648) (N_ : Int) (hI : CI S N_) : Ki (KC G) l yX9_pair cX9_pair 3 .int rm_X9_pair [.ref (G.2.2 0), .int (iI x), .int (iI u)] S (po_X9_pair S x u) := by
  refine K_start (own := "NameSeeker") (by decide +kernel) rfl (Nat.le_of_ble_eq_true rfl) ?_
  intro p e s m args below meth c X hr hlk I ls hl
  have hl : lv_has ls 3 [(0, .ref (G.2.2 0)), (1, .int (iI x)), (2, .int (iI u))] := hl
  obtain ⟨ht, hc, hln, hsc, hcn, hpi, hinj, hnm, hwd, hkn, has, hnx⟩ := hI
  refine lv_aload_n X.1 X.2.1 dX9_pair_0 rfl (lv_at hl 0 rfl) ?_
  refine gC_ns_lot X I tb_402 dX9_pair_1 ?_
  refine lv_iload_n X.1 X.2.1 dX9_pair_4 rfl (lv_at hl 1 rfl) ?_
  refine cl_i I (runV (As := [.int (iI x)]) (rest := []) X (k_X3_has l G S  x (S.1 51 0) rfl (by omega) (by omega)) (gdC tb_474 (gdC tb_475 (gdC tb_476 (gdC tb_36 (gdC tb_477 gdB))))) ⟨ok_X3_has, ⟨Nat.le_of_ble_eq_true rfl, Nat.le_of_ble_eq_true rfl⟩, rfl, rfl⟩ (PreV.of (C := RX3) (T := TX3) (N := 3) I (atC_lot) rfl) rfl hl.1 rfl (Nat.le_of_ble_eq_true rfl) dX9_pair_5 ⟨Nat.zero_le _, Nat.zero_le _⟩) (fun r1 S2 H locs q3 I => ?_)
  obtain ⟨e1_, e2_⟩ := q3
  rw [e2_] at I
  rw [e1_]
  clear e1_ e2_
  rcases Decidable.em ((0 ≤ x ∧ x < (S.1 51 0))) with b4 | b4
  · rw [bI_t b4]
    refine rz_eq (tgt := 22) X (by omega) dX9_pair_8 (by decide) (fun c5 => absurd c5 (by decide)) (fun _ => ?_)
    refine lv_aload_n X.1 X.2.1 dX9_pair_11 rfl (lv_at hl 0 rfl) ?_
    refine gC_ns_lot X I tb_402 dX9_pair_12 ?_
    refine lv_iload_n X.1 X.2.1 dX9_pair_15 rfl (lv_at hl 2 rfl) ?_
    refine cl_i I (runV (As := [.int (iI u)]) (rest := []) X (k_X3_has l G S  u (S.1 51 0) rfl (by omega) (by omega)) (gdC tb_474 (gdC tb_475 (gdC tb_476 (gdC tb_36 (gdC tb_477 gdB))))) ⟨ok_X3_has, ⟨Nat.le_of_ble_eq_true rfl, Nat.le_of_ble_eq_true rfl⟩, rfl, rfl⟩ (PreV.of (C := RX3) (T := TX3) (N := 3) I (atC_lot) rfl) rfl hl.1 rfl (Nat.le_of_ble_eq_true rfl) dX9_pair_16 ⟨Nat.zero_le _, Nat.zero_le _⟩) (fun r6 S7 H locs q8 I => ?_)
    obtain ⟨e1_, e2_⟩ := q8
    rw [e2_] at I
    rw [e1_]
    clear e1_ e2_
    rcases Decidable.em ((0 ≤ u ∧ u < (S.1 51 0))) with b9 | b9
    · rw [bI_t b9]
      refine rz_ne (tgt := 24) X (by omega) dX9_pair_19 (by decide) (fun _ => ?_) (fun c10 => absurd c10 (by decide))
      have hnx_ := hnm x (by omega) (by omega)
      obtain ⟨hn1, hn2, hn3, hn4, hn5, hn6, hn7⟩ := hnx_
      have hny_ := hnm u (by omega) (by omega)
      obtain ⟨hm1, hm2, hm3, hm4, hm5, hm6, hm7⟩ := hny_
      refine lv_aload_n X.1 X.2.1 dX9_pair_24 rfl (lv_at hl 0 rfl) ?_
      refine gC_ns_lot X I tb_402 dX9_pair_25 ?_
      refine gC_lot_names X I tb_123 dX9_pair_28 ?_
      refine lv_iload_n X.1 X.2.1 dX9_pair_31 rfl (lv_at hl 1 rfl) ?_
      refine aC_names X I (by omega) dX9_pair_32 ?_
      refine gC_name_letterBits X I (j := (S.2 x.toNat)) (hpi _ (by omega)) (v := (S.1 7 (((S.2 x.toNat) : Nat) : Int))) rfl tb_105 dX9_pair_33 ?_
      refine lv_aload_n X.1 X.2.1 dX9_pair_36 rfl (lv_at hl 0 rfl) ?_
      refine gC_ns_lot X I tb_402 dX9_pair_37 ?_
      refine gC_lot_names X I tb_123 dX9_pair_40 ?_
      refine lv_iload_n X.1 X.2.1 dX9_pair_43 rfl (lv_at hl 2 rfl) ?_
      refine aC_names X I (by omega) dX9_pair_44 ?_
      refine gC_name_letterBits X I (j := (S.2 u.toNat)) (hpi _ (by omega)) (v := (S.1 7 (((S.2 u.toNat) : Nat) : Int))) rfl tb_105 dX9_pair_45 ?_
      refine ri_and X (by omega) (by omega) dX9_pair_48 ?_
      have t11 := band_r (S.1 7 (((S.2 x.toNat) : Nat) : Int)) (b := (S.1 7 (((S.2 u.toNat) : Nat) : Int))) (by omega)
      refine cl_i I (runS (As := [.int (iI (band (S.1 7 (((S.2 x.toNat) : Nat) : Int)) (S.1 7 (((S.2 u.toNat) : Nat) : Int))))]) (rest := []) X (k_bitCount l (KC G) S (band (S.1 7 (((S.2 x.toNat) : Nat) : Int)) (S.1 7 (((S.2 u.toNat) : Nat) : Int))) (by omega)) (gdC tb_668 gdB) tb_666 tb_667 tb_50 ⟨ok_bitCount, ⟨Nat.le_of_ble_eq_true rfl, Nat.le_of_ble_eq_true rfl⟩, rfl, rfl⟩ (PreS.of I) rfl hl.1 rfl (Nat.le_of_ble_eq_true rfl) dX9_pair_49 ⟨Nat.zero_le _, Nat.zero_le _⟩) (fun r12 S13 H locs q14 I => ?_)
      obtain ⟨e1_, e2_⟩ := q14
      rw [e2_] at I
      rw [e1_]
      clear e1_ e2_
      exact rt_i X hr hlk I rfl (by exact Or.inr (⟨by omega, by omega, rfl, rfl⟩)) dX9_pair_52
    · rw [bI_f b9]
      refine rz_ne (tgt := 24) X (by omega) dX9_pair_19 (by decide) (fun c15 => absurd c15 (by decide)) (fun _ => ?_)
      refine ri_const X (v := (-1)) dX9_pair_22 ?_
      exact rt_i X hr hlk I rfl (by exact Or.inl ⟨by omega, rfl, rfl⟩) dX9_pair_23
  · rw [bI_f b4]
    refine rz_eq (tgt := 22) X (by omega) dX9_pair_8 (by decide) (fun _ => ?_) (fun c16 => absurd c16 (fun q => q (by decide)))
    refine ri_const X (v := (-1)) dX9_pair_22 ?_
    exact rt_i X hr hlk I rfl (by exact Or.inl ⟨by omega, rfl, rfl⟩) dX9_pair_23

theorem op_pair {S : St} {M : St} {n r r2 : Int} {S1 M1 : St} {x u : Int} (h : JJ S M.1 n) (hn : n < 600) (hc : po_X9_pair S x u r S1) (hm : po_X10_pair M x u r2 M1) : r = r2 ∧ JJ S1 M1.1 (n + 1) := by
  obtain ⟨hT, hN, hS, hW, hC, hH, hA, hK, hX⟩ := id h
  have e51 := hN.2.2.2.2.1
  rcases hc with ⟨a1, a2, a3⟩ | ⟨a1, a2, a3, a4⟩
  · rcases hm with ⟨b1, b2, b3⟩ | ⟨b1, b2, b3, b4⟩
    · rw [a3, b3]; exact ⟨by omega, JJ_n h hn⟩
    · exact absurd b1 (by omega)
  · rcases hm with ⟨b1, b2, b3⟩ | ⟨b1, b2, b3, b4⟩
    · exact absurd b1 (by omega)
    · rw [a4, b4]
      refine ⟨?_, JJ_n h hn⟩
      obtain ⟨r1, r2_, r3, r4, r5, r6, r7⟩ := hN.2.2.2.2.2 x a1.1 a1.2
      obtain ⟨v1, v2_, v3, v4, v5, v6, v7⟩ := hN.2.2.2.2.2 u a2.1 a2.2
      have s1 : ∀ q : Nat, q < (M.1 3 x).toNat → sgn ((fun z_ => M.1 2 (12 * x + z_)) q) := fun q hq => by
        have := r7 q (by omega) (by omega)
        show sgn (M.1 2 (12 * x + q))
        rw [this.1]; exact this.2
      have s2 : ∀ q : Nat, q < (M.1 3 u).toNat → sgn ((fun z_ => M.1 2 (12 * u + z_)) q) := fun q hq => by
        have := v7 q (by omega) (by omega)
        show sgn (M.1 2 (12 * u + q))
        rw [this.1]; exact this.2
      rw [a3, b3, ← pair_iff s1 s2, r6, v6, ← r1, ← v1, lbv_congr (s := S.1 (20 + S.2 x.toNat)) (v := fun z_ => M.1 2 (12 * x + z_)) _ (fun k p q => (r7 k p (by omega)).1.symm), lbv_congr (s := S.1 (20 + S.2 u.toNat)) (v := fun z_ => M.1 2 (12 * u + z_)) _ (fun k p q => (v7 k p (by omega)).1.symm)]
