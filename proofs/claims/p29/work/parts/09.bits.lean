/-! bits of numbers that aren't below nothing -/
theorem zz_and (a b : Nat) : nI a &&& nI b = nI (a &&& b) := by
  apply Int32.toBitVec_inj.1
  show BitVec.ofNat 32 a &&& BitVec.ofNat 32 b = BitVec.ofNat 32 (a &&& b)
  apply BitVec.eq_of_getLsbD_eq
  intro i hi
  simp [hi]
theorem zz_or (a b : Nat) : nI a ||| nI b = nI (a ||| b) := by
  apply Int32.toBitVec_inj.1
  show BitVec.ofNat 32 a ||| BitVec.ofNat 32 b = BitVec.ofNat 32 (a ||| b)
  apply BitVec.eq_of_getLsbD_eq
  intro i hi
  simp [hi]
theorem zz_andn (a b : Nat) : nI a &&& (nI b ^^^ (-1)) = nI (a ^^^ (a &&& b)) := by
  apply Int32.toBitVec_inj.1
  show BitVec.ofNat 32 a &&& (BitVec.ofNat 32 b ^^^ (-1 : Int32).toBitVec) = BitVec.ofNat 32 (a ^^^ (a &&& b))
  rw [show (-1 : Int32).toBitVec = BitVec.allOnes 32 by decide]
  apply BitVec.eq_of_getLsbD_eq
  intro i hi
  have e1 : (BitVec.allOnes 32).getLsbD i = true := by rw [BitVec.getLsbD_allOnes, decide_eq_true hi]
  rw [BitVec.getLsbD_and, BitVec.getLsbD_xor, e1]
  simp only [BitVec.getLsbD_ofNat, Nat.testBit_xor, Nat.testBit_and, hi, decide_true, Bool.true_and]
  cases a.testBit i <;> cases b.testBit i <;> rfl
theorem zz_sl : ∀ n, n < 32 → ((nI n &&& 31).toBitVec.smod 32).toNat = n := by decide +kernel
def band (a b : Int) : Int := ((a.toNat &&& b.toNat : Nat) : Int)
def bor (a b : Int) : Int := ((a.toNat ||| b.toNat : Nat) : Int)
def bandn (a b : Int) : Int := ((a.toNat ^^^ (a.toNat &&& b.toNat) : Nat) : Int)
def pw (k : Int) : Int := ((2 ^ k.toNat : Nat) : Int)
theorem pw_r {k : Int} (hk : 0 ≤ k ∧ k < 31) : 0 < pw k ∧ pw k < 2147483648 := by
  unfold pw
  have h : 2 ^ k.toNat ≤ 2 ^ 30 := Nat.pow_le_pow_right (by decide) (by omega)
  have h0 : 0 < 2 ^ k.toNat := Nat.two_pow_pos _
  omega
theorem bor_r {a b : Int} (ha : 0 ≤ a ∧ a < 2147483648) (hb : 0 ≤ b ∧ b < 2147483648) : 0 ≤ bor a b ∧ bor a b < 2147483648 := by
  unfold bor
  have := Nat.or_lt_two_pow (x := a.toNat) (y := b.toNat) (n := 31) (by omega) (by omega)
  omega
theorem band_r (a : Int) {b : Int} (hb : 0 ≤ b ∧ b < 2147483648) : 0 ≤ band a b ∧ band a b < 2147483648 := by
  unfold band
  have := Nat.and_le_right (n := a.toNat) (m := b.toNat)
  omega
theorem bandn_r {a b : Int} (ha : 0 ≤ a ∧ a < 2147483648) : 0 ≤ bandn a b ∧ bandn a b < 2147483648 := by
  unfold bandn
  have h1 := Nat.and_le_left (n := a.toNat) (m := b.toNat)
  have := Nat.xor_lt_two_pow (x := a.toNat) (y := a.toNat &&& b.toNat) (n := 31) (by omega) (by omega)
  omega
theorem iI_n {a : Int} (h : 0 ≤ a) : iI a = nI a.toNat := by rw [← iI_nat]; congr 1; omega
theorem iI_and {a b : Int} (ha : 0 ≤ a) (hb : 0 ≤ b) : iI a &&& iI b = iI (band a b) := by
  rw [iI_n ha, iI_n hb, zz_and]; unfold band; rw [iI_nat]
theorem iI_or {a b : Int} (ha : 0 ≤ a) (hb : 0 ≤ b) : iI a ||| iI b = iI (bor a b) := by
  rw [iI_n ha, iI_n hb, zz_or]; unfold bor; rw [iI_nat]
theorem iI_andn {a b : Int} (ha : 0 ≤ a) (hb : 0 ≤ b) : iI a &&& (iI b ^^^ iI (-1)) = iI (bandn a b) := by
  rw [iI_n ha, iI_n hb, show iI (-1) = -1 from rfl, zz_andn]; unfold bandn; rw [iI_nat]
theorem iI_shl {k : Int} (hk : 0 ≤ k ∧ k < 31) : iI 1 <<< (iI k &&& 31) = iI (pw k) := by
  have h2 : 2 ^ k.toNat ≤ 2 ^ 30 := Nat.pow_le_pow_right (by decide) (by omega)
  rw [iI_n hk.1, show iI 1 = nI 1 from rfl, pk_shlN _ k.toNat (zz_sl _ (by omega)) (by omega), Nat.one_mul]; unfold pw; rw [iI_nat]
section BROWS
variable {p : Program} {l : Launch} {e : Env} {R : Room} {s : State} {m : MethodId} {args : Array Value} {below : List Frame} {meth : Method} {c : Code} {H : Heap} {locs : List Loc} {cells slots : Nat} {Q : State → Prop}
variable {cc : ByteArray} {pc nL : Nat} {ls : Array Slot} {rest : List Value} {own : String}
theorem ri_and (X : CallFix p m c cc nL s args TB own) {a b : Int} (ha : 0 ≤ a) (hb : 0 ≤ b) (hdg : decode cc pc = .ok (.iand, 1)) (k : W p l e R s m args below meth c H locs cells slots Q (F0 m (pc + 1) ls (.int (iI (band a b)) :: rest))) : W p l e R s m args below meth c H locs cells slots Q (F0 m pc ls (.int (iI b) :: .int (iI a) :: rest)) := by
  refine lv_iand X.1 X.2.1 hdg ?_
  rw [iI_and ha hb]; exact k
theorem ri_or (X : CallFix p m c cc nL s args TB own) {a b : Int} (ha : 0 ≤ a) (hb : 0 ≤ b) (hdg : decode cc pc = .ok (.ior, 1)) (k : W p l e R s m args below meth c H locs cells slots Q (F0 m (pc + 1) ls (.int (iI (bor a b)) :: rest))) : W p l e R s m args below meth c H locs cells slots Q (F0 m pc ls (.int (iI b) :: .int (iI a) :: rest)) := by
  refine lv_ior X.1 X.2.1 hdg ?_
  rw [iI_or ha hb]; exact k
theorem ri_shl (X : CallFix p m c cc nL s args TB own) {a : Int} (ha : 0 ≤ a ∧ a < 31) (hdg : decode cc pc = .ok (.ishl, 1)) (k : W p l e R s m args below meth c H locs cells slots Q (F0 m (pc + 1) ls (.int (iI (pw a)) :: rest))) : W p l e R s m args below meth c H locs cells slots Q (F0 m pc ls (.int (iI a) :: .int (iI 1) :: rest)) := by
  refine lv_ishl X.1 X.2.1 hdg ?_
  rw [iI_shl ha]; exact k
theorem ri_andnot (X : CallFix p m c cc nL s args TB own) {a b : Int} (ha : 0 ≤ a) (hb : 0 ≤ b) (h1 : decode cc pc = .ok (.iconst (-1), 1)) (h2 : decode cc (pc + 1) = .ok (.ixor, 1)) (h3 : decode cc (pc + 2) = .ok (.iand, 1)) (k : W p l e R s m args below meth c H locs cells slots Q (F0 m (pc + 3) ls (.int (iI (bandn a b)) :: rest))) : W p l e R s m args below meth c H locs cells slots Q (F0 m pc ls (.int (iI b) :: .int (iI a) :: rest)) := by
  refine ri_const X (v := -1) h1 ?_
  refine lv_ixor X.1 X.2.1 h2 ?_
  refine lv_iand X.1 X.2.1 h3 ?_
  rw [iI_andn ha hb]; exact k
end BROWS
theorem ua_self (f : Nat → Int → Int) (c : Nat) (i : Int) : ua f c i (f c i) = f := by
  funext c' j
  rw [ua_at]
  by_cases h : c' = c ∧ j = i
  · rw [if_pos h, h.1, h.2]
  · rw [if_neg h]
theorem us_eq {f : Nat → Int → Int} {c : Nat} {v j : Int} : us f c v c j = v := by rw [us_at, if_pos rfl]
theorem us_nc {f : Nat → Int → Int} {c c2 : Nat} {v j : Int} (h : ¬ c2 = c) : us f c v c2 j = f c2 j := by rw [us_at, if_neg h]
theorem ua_eq {f : Nat → Int → Int} {c : Nat} {i v : Int} : ua f c i v c i = v := by rw [ua_at, if_pos ⟨rfl, rfl⟩]
theorem ua_nc {f : Nat → Int → Int} {c c2 : Nat} {i j v : Int} (h : ¬ c2 = c) : ua f c i v c2 j = f c2 j := by rw [ua_at, if_neg (fun q => h q.1)]
theorem ua_ni {f : Nat → Int → Int} {c c2 : Nat} {i j v : Int} (h : ¬ j = i) : ua f c i v c2 j = f c2 j := by rw [ua_at, if_neg (fun q => h q.2)]
