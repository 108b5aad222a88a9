/-! ints of the machine as integers -/
def iI (z : Int) : Int32 := Int32.ofInt z
def lI (z : Int) : Int64 := Int64.ofInt z
theorem iI_add (a b : Int) : iI a + iI b = iI (a + b) := (Int32.ofInt_add a b).symm
theorem iI_sub (a b : Int) : iI a - iI b = iI (a - b) := (Int32.ofInt_sub a b).symm
theorem iI_mul (a b : Int) : iI a * iI b = iI (a * b) := (Int32.ofInt_mul a b).symm
theorem iI_neg (a : Int) : - iI a = iI (-a) := (Int32.ofInt_neg a).symm
theorem iI_of (x : Int32) : iI x.toInt = x := Int32.ofInt_toInt x
theorem iI_t {z : Int} (h : -2147483648 ≤ z ∧ z < 2147483648) : (iI z).toInt = z := Int32.toInt_ofInt_of_le (by omega) (by omega)
theorem iI_lt {a b : Int} (ha : -2147483648 ≤ a ∧ a < 2147483648) (hb : -2147483648 ≤ b ∧ b < 2147483648) : iI a < iI b ↔ a < b := by rw [Int32.lt_iff_toInt_lt, iI_t ha, iI_t hb]
theorem iI_le {a b : Int} (ha : -2147483648 ≤ a ∧ a < 2147483648) (hb : -2147483648 ≤ b ∧ b < 2147483648) : iI a ≤ iI b ↔ a ≤ b := by rw [Int32.le_iff_toInt_le, iI_t ha, iI_t hb]
theorem iI_eq {a b : Int} (ha : -2147483648 ≤ a ∧ a < 2147483648) (hb : -2147483648 ≤ b ∧ b < 2147483648) : iI a = iI b ↔ a = b := ⟨fun h => by rw [← iI_t ha, h, iI_t hb], fun h => by rw [h]⟩
theorem iI_nat (n : Nat) : iI (n : Int) = nI n := by unfold iI nI; exact Int32.ofInt_eq_ofNat
theorem lI_nat (n : Nat) : lI (n : Int) = lN n := by unfold lI lN; exact Int64.ofInt_eq_ofNat
theorem iI_cl {z : Int} (h0 : 0 ≤ z) (h : z < 2147483648) : ((iI z).toNatClampNeg : Int) = z := by
  obtain ⟨n, rfl⟩ : ∃ n : Nat, z = n := ⟨z.toNat, by omega⟩
  rw [iI_nat, nI_clamp (by omega)]
theorem iI_in {z : Int} {n : Nat} (h0 : 0 ≤ z) (h : z < n) (hn : n < 2147483648) : vp_in (iI z) n := by
  obtain ⟨k, rfl⟩ : ∃ n : Nat, z = n := ⟨z.toNat, by omega⟩
  rw [iI_nat]
  exact vp_in_nI (by omega) (by omega)
theorem iI_rem {a b : Int} (h0 : 0 ≤ a) (h1 : a < 2147483648) (h2 : 0 < b) (h3 : b < 2147483648) : iI a - iI a / iI b * iI b = iI (a % b) := by
  obtain ⟨x, rfl⟩ : ∃ n : Nat, a = n := ⟨a.toNat, by omega⟩
  obtain ⟨y, rfl⟩ : ∃ n : Nat, b = n := ⟨b.toNat, by omega⟩
  rw [iI_nat, iI_nat, pk_rem (by omega) (by omega) (by omega), ← Int.natCast_emod, iI_nat]
theorem iI_char {z : Int} (h0 : 0 ≤ z) (h : z < 65536) : narrow .char (.int (iI z)) = .int (iI z) ∧ fits .char (.int (iI z)) = true ∧ vp_nar .char (iI z) = iI z ∧ ((iI z).toUInt32 % 65536).toInt32 = iI z := by
  obtain ⟨x, rfl⟩ : ∃ n : Nat, z = n := ⟨z.toNat, by omega⟩
  have hx : x < 65536 := by omega
  rw [iI_nat]
  have h5 : ((nI x).toUInt32 % 65536).toInt32 = nI x := by
    rw [pk_char, pk_tn (by omega), Nat.mod_eq_of_lt hx]
  refine ⟨(pk_charN hx).1, (pk_charN hx).2, ?_, h5⟩
  rw [vp_nar_char]
  first | exact h5 | (rw [← h5]; simp)
theorem lI_add (a b : Int) : lI a + lI b = lI (a + b) := (Int64.ofInt_add a b).symm
theorem lI_mul (a b : Int) : lI a * lI b = lI (a * b) := (Int64.ofInt_mul a b).symm
theorem lI_t {z : Int} (h : -9223372036854775808 ≤ z ∧ z < 9223372036854775808) : (lI z).toInt = z := Int64.toInt_ofInt_of_le (by omega) (by omega)
theorem lI_eq {a b : Int} (ha : -9223372036854775808 ≤ a ∧ a < 9223372036854775808) (hb : -9223372036854775808 ≤ b ∧ b < 9223372036854775808) : lI a = lI b ↔ a = b := ⟨fun h => by rw [← lI_t ha, h, lI_t hb], fun h => by rw [h]⟩
theorem iI_l {z : Int} (h : -2147483648 ≤ z ∧ z < 2147483648) : (iI z).toInt64 = lI z := by
  apply Int64.toInt_inj.mp
  rw [Int32.toInt_toInt64, iI_t h, lI_t (by omega)]
theorem lI_i (z : Int) : (lI z).toInt32 = iI z := by unfold lI iI; first | exact Int64.toInt32_ofInt z | exact Int64.toInt32_ofInt | simp
theorem lI_rem {a b : Int} (h0 : 0 ≤ a) (h1 : a < 9223372036854775808) (h2 : 0 < b) (h3 : b < 9223372036854775808) : lI a - lI a / lI b * lI b = lI (a % b) := by
  obtain ⟨x, rfl⟩ : ∃ n : Nat, a = n := ⟨a.toNat, by omega⟩
  obtain ⟨y, rfl⟩ : ∃ n : Nat, b = n := ⟨b.toNat, by omega⟩
  rw [lI_nat, lI_nat, pk_lRem (by omega) (by omega) (by omega), ← Int.natCast_emod, lI_nat]
/-! an answer that is a boolean -/
def bI (P : Prop) [Decidable P] : Int := if P then 1 else 0
theorem bI_t {P : Prop} [Decidable P] (h : P) : bI P = 1 := if_pos h
theorem bI_f {P : Prop} [Decidable P] (h : ¬ P) : bI P = 0 := if_neg h
/-! the store: component, place; the second part: which object stands at a place of the row of names -/
abbrev St : Type := (Nat → Int → Int) × (Nat → Nat)
def us (f : Nat → Int → Int) (c : Nat) (v : Int) : Nat → Int → Int := fun c' j => bif Nat.beq c' c then v else f c' j
def ua (f : Nat → Int → Int) (c : Nat) (i v : Int) : Nat → Int → Int := fun c' j => bif Nat.beq c' c && decide (j = i) then v else f c' j
theorem us_at (f : Nat → Int → Int) (c : Nat) (v : Int) (c' : Nat) (j : Int) : us f c v c' j = if c' = c then v else f c' j := by
  unfold us
  by_cases h : c' = c
  · subst h; simp
  · have : Nat.beq c' c = false := by
      cases hb : Nat.beq c' c with
      | false => rfl
      | true => exact absurd (Nat.eq_of_beq_eq_true hb) h
    rw [this, if_neg h]; rfl
theorem ua_at (f : Nat → Int → Int) (c : Nat) (i v : Int) (c' : Nat) (j : Int) : ua f c i v c' j = if c' = c ∧ j = i then v else f c' j := by
  unfold ua
  by_cases h : c' = c
  · subst h
    by_cases h2 : j = i
    · simp [h2]
    · simp [h2]
  · have : Nat.beq c' c = false := by
      cases hb : Nat.beq c' c with
      | false => rfl
      | true => exact absurd (Nat.eq_of_beq_eq_true hb) h
    rw [this, if_neg (fun q => h q.1)]; rfl
theorem upd_ua {f : Nat → Int → Int} {c : Nat} {z v : Int} (h0 : 0 ≤ z) (h : z < 2147483648) : upd (fun j : Nat => iI (f c j)) (iI z).toNatClampNeg (iI v) = fun j : Nat => iI (ua f c z v c j) := by
  funext j
  have e := iI_cl h0 h
  rw [ua_at]
  unfold upd
  by_cases hj : j = (iI z).toNatClampNeg
  · rw [if_pos hj, if_pos ⟨rfl, by rw [hj, e]⟩]
  · rw [if_neg hj, if_neg (fun q => hj (by omega))]
theorem updL_ua {f : Nat → Int → Int} {c : Nat} {z v : Int} (h0 : 0 ≤ z) (h : z < 2147483648) : vp_updL (fun j : Nat => lI (f c j)) (iI z).toNatClampNeg (lI v) = fun j : Nat => lI (ua f c z v c j) := by
  funext j
  have e := iI_cl h0 h
  rw [ua_at]
  unfold vp_updL
  by_cases hj : j = (iI z).toNatClampNeg
  · rw [if_pos hj, if_pos ⟨rfl, by rw [hj, e]⟩]
  · rw [if_neg hj, if_neg (fun q => hj (by omega))]
/-! the words -/
theorem goodTB : ∀ w ∈ TB, goodWord w = true := fun _ h => (List.mem_filter.mp h).2
theorem gdT {ws : List Cond} (h : ∀ w ∈ ws, w ∈ TB) : GoodIn TB ws := fun w hw => ⟨h w hw, good_of_word (goodTB w (h w hw))⟩
theorem gdC {w : Cond} {ws : List Cond} (h : w ∈ TB) (h2 : GoodIn TB ws) : GoodIn TB (w :: ws) := fun v hv => (List.mem_cons.mp hv).elim (fun e => by subst e; exact ⟨h, good_of_word (goodTB v h)⟩) (h2 v)
theorem gdN : GoodIn TB [] := fun w hw => by cases hw
theorem gdB : GoodIn TB TB := gdT (fun w h => h)
/-! nest mates' links -/
def nestL : List (String × Nat × MethodName × String) := [("NameSeeker$Name", 38, yX9_isLetter, "NameSeeker"), ("NameSeeker$Name", 46, yX9_isGreat, "NameSeeker"), ("NameSeeker$Name", 49, yX9_isSmall, "NameSeeker"), ("NameSeeker$Name", 42, yX9_letterNumber, "NameSeeker"), ("NameSeeker$Text", 37, yX9_isSign, "NameSeeker"), ("NameSeeker$Word", 19, yX9_isGreat, "NameSeeker"), ("NameSeeker$Word", 25, yX9_letterNumber, "NameSeeker"), ("NameSeeker$Lot", 24, yX4_init, "NameSeeker"), ("NameSeeker", 9, yX7_init, "NameSeeker"), ("NameSeeker", 25, yX6_init, "NameSeeker"), ("NameSeeker", 32, yX8_init, "NameSeeker"), ("NameSeeker", 46, yX2_init, "NameSeeker"), ("NameSeeker", 53, yX1_init, "NameSeeker"), ("NameSeeker", 60, yX0_init, "NameSeeker"), ("NameSeeker", 67, yX5_init, "NameSeeker")]
def Nst (U : State) : Prop := ∀ q ∈ nestL, va_Nw (.methodLinkNest q.1 q.2.1 q.2.2.1 q.2.2.2) U
theorem Nst.warm {s U : State} (h : s.WarmedH U.vm) (hN : Nst s) : Nst U := fun q hq => va_Nw.warmM h (hN q hq)
theorem Nst.same {s U : State} (h : s.vm = U.vm) (hN : Nst s) : Nst U := fun q hq => va_Nw.same rfl h (hN q hq)
/-! a side of the law: the world of a store -/
abbrev Sd : Type := va_G × List (ClassId × FieldType) × (St → va_W) × (Nat → Prop)
def WC (K : Sd) (S : St) (U : State) : Prop := va_K K.1 vwCl K.2.1 U ∧ va_P K.1 vwCl (K.2.2.1 S) U.heap ∧ va_D K.2.2.2 (K.2.2.1 S) ∧ Nst U
def In (K : Sd) (s : State) (H0 H : Heap) (locs : List Loc) (S : St) : Prop := va_K K.1 vwCl K.2.1 s ∧ va_P K.1 vwCl (K.2.2.1 S) H ∧ va_D K.2.2.2 (K.2.2.1 S) ∧ va_S K.2.2.2 H0 H locs ∧ Nst s
theorem WC.blind {K : Sd} {S : St} {av : List Value} : FrameBlind (va_Pc av (WC K S)) := fun a U g mk q => ⟨q.1, va_K.moved (u := U) (U := U.calling g mk a) (Vm.Alike.refl U.vm) q.2.1, q.2.2.1, q.2.2.2.1, Nst.same (s := U) (U := U.calling g mk a) rfl q.2.2.2.2⟩
theorem In.wc {K : Sd} {s t : State} {H0 H : Heap} {locs : List Loc} {S : St} (I : In K s H0 H locs S) (ht : t.heap = H) (hW : s.WarmedH t.vm) : WC K S t := ⟨va_K.moved hW.alike I.1, by rw [ht]; exact I.2.1, I.2.2.1, Nst.warm hW I.2.2.2.2⟩
abbrev QI (K : Sd) (post : Int → St → Prop) : Array Value → State → Outcome → State → Prop := va_Qi (fun r S1 => ∃ z, r = iI z ∧ post z S1) (fun S1 t => WC K S1 t) K.2.2.2
abbrev QL (K : Sd) (post : Int → St → Prop) : Array Value → State → Outcome → State → Prop := va_Ql (fun r S1 => ∃ z, r = lI z ∧ post z S1) (fun S1 t => WC K S1 t) K.2.2.2
abbrev QV (K : Sd) (post : St → Prop) : Array Value → State → Outcome → State → Prop := va_Qv post (fun S1 t => WC K S1 t) K.2.2.2
def Ki (K : Sd) (l : Launch) (y : MethodName) (cc : ByteArray) (n : Nat) (ret : FieldType) (rm : Room) (av : List Value) (S : St) (post : Int → St → Prop) : Prop := Met l y (.code y cc n (some ret) :: TB) rm (va_Pc av (WC K S)) (QI K post) 0 0 K.2.2.2
def Kl (K : Sd) (l : Launch) (y : MethodName) (cc : ByteArray) (n : Nat) (rm : Room) (av : List Value) (S : St) (post : Int → St → Prop) : Prop := Met l y (.code y cc n (some .long) :: TB) rm (va_Pc av (WC K S)) (QL K post) 0 0 K.2.2.2
def Kv (K : Sd) (l : Launch) (y : MethodName) (cc : ByteArray) (n : Nat) (rm : Room) (av : List Value) (S : St) (post : St → Prop) : Prop := Met l y (.code y cc n none :: TB) rm (va_Pc av (WC K S)) (QV K post) 0 0 K.2.2.2
section KST
variable {K : Sd} {l : Launch} {y : MethodName} {cc : ByteArray} {n : Nat} {ret : Option FieldType} {rm : Room} {av : List Value} {S : St} {own : String}
theorem K_start {Qc : Array Value → State → Outcome → State → Prop} (hy : plainName y.cls = true) (hc : y.cls = own) (hn : (lg_sl av).length ≤ n)
    (body : ∀ (p : Program) (e : Env) (s : State) (m : MethodId) (args : Array Value) (below : List Frame) (meth : Method) (c : Code), CallFix p m c cc n s args TB own → meth.sig.returnType = ret → meth.locks = false → In K s s.heap s.heap [] S → ∀ ls : Array Slot, lv_has ls n (lv_args 0 av) →
      W p l e rm s m args below meth c s.heap [] 0 0 (MQ below Qc args s 0 0 K.2.2.2) (F0 m 0 ls [])) : Met l y (.code y cc n ret :: TB) rm (va_Pc av (WC K S)) Qc 0 0 K.2.2.2 := by
  refine Met.ofW (cc := cc) (maxL := n) (ret := ret) hy rfl ?_
  intro p e s m args below meth c s₁ B hml hv
  obtain ⟨rfl, hK, hP, hD, hN⟩ := hv
  have hts := atoms_spec (ws := .code y cc n ret :: TB) B.pre
  have hown : s.vm.findClass y.cls = some m.cls := findClass_of_methodNamed B.named
  rw [hc] at hown
  rw [lg_entry_eq]
  exact body p e s m _ below meth c ⟨B.exec, B.bytes, hml, hown, fun w h => hts w (List.mem_cons_of_mem _ h)⟩ B.returns B.notSynchronized ⟨hK, hP, hD, va_S.rf, hN⟩ _ (lv_entry av hn)
end KST
section ROWS
variable {p : Program} {l : Launch} {e : Env} {R : Room} {s : State} {m : MethodId} {args : Array Value} {below : List Frame} {meth : Method} {c : Code} {H : Heap} {locs : List Loc} {cells slots : Nat} {Q : State → Prop}
variable {cc : ByteArray} {pc nL : Nat} {ls : Array Slot} {rest : List Value} {own : String}
/-! numbers -/
theorem ri_add (X : CallFix p m c cc nL s args TB own) {a b v : Int} (hv : a + b = v) (hdg : decode cc pc = .ok (.iadd, 1)) (k : W p l e R s m args below meth c H locs cells slots Q (F0 m (pc + 1) ls (.int (iI v) :: rest))) : W p l e R s m args below meth c H locs cells slots Q (F0 m pc ls (.int (iI b) :: .int (iI a) :: rest)) := by
  refine lv_iadd X.1 X.2.1 hdg ?_
  rw [iI_add, hv]; exact k
theorem ri_sub (X : CallFix p m c cc nL s args TB own) {a b v : Int} (hv : a - b = v) (hdg : decode cc pc = .ok (.isub, 1)) (k : W p l e R s m args below meth c H locs cells slots Q (F0 m (pc + 1) ls (.int (iI v) :: rest))) : W p l e R s m args below meth c H locs cells slots Q (F0 m pc ls (.int (iI b) :: .int (iI a) :: rest)) := by
  refine lv_isub X.1 X.2.1 hdg ?_
  rw [iI_sub, hv]; exact k
theorem ri_mul (X : CallFix p m c cc nL s args TB own) {a b v : Int} (hv : a * b = v) (hdg : decode cc pc = .ok (.imul, 1)) (k : W p l e R s m args below meth c H locs cells slots Q (F0 m (pc + 1) ls (.int (iI v) :: rest))) : W p l e R s m args below meth c H locs cells slots Q (F0 m pc ls (.int (iI b) :: .int (iI a) :: rest)) := by
  refine lv_imul X.1 X.2.1 hdg ?_
  rw [iI_mul, hv]; exact k
theorem ri_neg (X : CallFix p m c cc nL s args TB own) {a v : Int} (hv : -a = v) (hdg : decode cc pc = .ok (.ineg, 1)) (k : W p l e R s m args below meth c H locs cells slots Q (F0 m (pc + 1) ls (.int (iI v) :: rest))) : W p l e R s m args below meth c H locs cells slots Q (F0 m pc ls (.int (iI a) :: rest)) := by
  refine lv_ineg X.1 X.2.1 hdg ?_
  rw [iI_neg, hv]; exact k
theorem ri_rem (X : CallFix p m c cc nL s args TB own) {a b v : Int} (hv : a % b = v) (ha : 0 ≤ a ∧ a < 2147483648) (hb : 0 < b ∧ b < 2147483648) (hdg : decode cc pc = .ok (.irem, 1)) (k : W p l e R s m args below meth c H locs cells slots Q (F0 m (pc + 1) ls (.int (iI v) :: rest))) : W p l e R s m args below meth c H locs cells slots Q (F0 m pc ls (.int (iI b) :: .int (iI a) :: rest)) := by
  refine lv_irem X.1 X.2.1 hdg (fun h => ?_) ?_
  · have := (iI_eq (by omega) (by omega)).mp (show iI b = iI 0 from h)
    omega
  · rw [iI_rem ha.1 ha.2 hb.1 hb.2, hv]; exact k
theorem ri_i2l (X : CallFix p m c cc nL s args TB own) {a : Int} (ha : -2147483648 ≤ a ∧ a < 2147483648) (hdg : decode cc pc = .ok (.i2l, 1)) (k : W p l e R s m args below meth c H locs cells slots Q (F0 m (pc + 1) ls (.long (lI a) :: rest))) : W p l e R s m args below meth c H locs cells slots Q (F0 m pc ls (.int (iI a) :: rest)) := lv_i2l X.1 X.2.1 hdg (iI_l ha) k
theorem ri_l2i (X : CallFix p m c cc nL s args TB own) {a : Int} (hdg : decode cc pc = .ok (.l2i, 1)) (k : W p l e R s m args below meth c H locs cells slots Q (F0 m (pc + 1) ls (.int (iI a) :: rest))) : W p l e R s m args below meth c H locs cells slots Q (F0 m pc ls (.long (lI a) :: rest)) := lv_l2i X.1 X.2.1 hdg (lI_i a) k
theorem ri_i2c (X : CallFix p m c cc nL s args TB own) {a : Int} (ha : 0 ≤ a ∧ a < 65536) (hdg : decode cc pc = .ok (.i2c, 1)) (k : W p l e R s m args below meth c H locs cells slots Q (F0 m (pc + 1) ls (.int (iI a) :: rest))) : W p l e R s m args below meth c H locs cells slots Q (F0 m pc ls (.int (iI a) :: rest)) := lv_i2c X.1 X.2.1 hdg (iI_char ha.1 ha.2).2.2.2 k
theorem ri_ladd (X : CallFix p m c cc nL s args TB own) {a b v : Int} (hv : a + b = v) (hdg : decode cc pc = .ok (.ladd, 1)) (k : W p l e R s m args below meth c H locs cells slots Q (F0 m (pc + 1) ls (.long (lI v) :: rest))) : W p l e R s m args below meth c H locs cells slots Q (F0 m pc ls (.long (lI b) :: .long (lI a) :: rest)) := by
  refine lv_ladd X.1 X.2.1 hdg ?_
  rw [lI_add, hv]; exact k
theorem ri_lmul (X : CallFix p m c cc nL s args TB own) {a b v : Int} (hv : a * b = v) (hdg : decode cc pc = .ok (.lmul, 1)) (k : W p l e R s m args below meth c H locs cells slots Q (F0 m (pc + 1) ls (.long (lI v) :: rest))) : W p l e R s m args below meth c H locs cells slots Q (F0 m pc ls (.long (lI b) :: .long (lI a) :: rest)) := by
  refine lv_lmul X.1 X.2.1 hdg ?_
  rw [lI_mul, hv]; exact k
theorem ri_lrem (X : CallFix p m c cc nL s args TB own) {a b v : Int} (hv : a % b = v) (ha : 0 ≤ a ∧ a < 9223372036854775808) (hb : 0 < b ∧ b < 9223372036854775808) (hdg : decode cc pc = .ok (.lrem, 1)) (k : W p l e R s m args below meth c H locs cells slots Q (F0 m (pc + 1) ls (.long (lI v) :: rest))) : W p l e R s m args below meth c H locs cells slots Q (F0 m pc ls (.long (lI b) :: .long (lI a) :: rest)) := by
  refine lv_lrem X.1 X.2.1 hdg (fun h => ?_) ?_
  · have := (lI_eq (by omega) (by omega)).mp (show lI b = lI 0 from h)
    omega
  · rw [lI_rem ha.1 ha.2 hb.1 hb.2, hv]; exact k
theorem ri_ldc2 (X : CallFix p m c cc nL s args TB own) {index : Nat} {v : Int} {w : Int64} (hc : Jvm.Cond.constantLong own index w ∈ TB) (hw : w = lI v) (hdg : decode cc pc = .ok (.ldc2_w index, 3)) (k : W p l e R s m args below meth c H locs cells slots Q (F0 m (pc + 3) ls (.long (lI v) :: rest))) : W p l e R s m args below meth c H locs cells slots Q (F0 m pc ls rest) := lv_ldc2 X.1 X.2.1 X.2.2.2.1 (X.2.2.2.2 _ hc) hdg (by rw [hw]; exact k)
theorem ri_const (X : CallFix p m c cc nL s args TB own) {v : Int} (hdg : decode cc pc = .ok (.iconst v, 1)) (k : W p l e R s m args below meth c H locs cells slots Q (F0 m (pc + 1) ls (.int (iI v) :: rest))) : W p l e R s m args below meth c H locs cells slots Q (F0 m pc ls rest) := lv_iconst X.1 X.2.1 hdg rfl k
theorem ri_push (X : CallFix p m c cc nL s args TB own) {n v : Int} (hv : (Int8.ofInt n).toInt32 = iI v) (hdg : decode cc pc = .ok (.bipush n, 2)) (k : W p l e R s m args below meth c H locs cells slots Q (F0 m (pc + 2) ls (.int (iI v) :: rest))) : W p l e R s m args below meth c H locs cells slots Q (F0 m pc ls rest) := lv_bipush X.1 X.2.1 hdg hv k
theorem ri_spush (X : CallFix p m c cc nL s args TB own) {n v : Int} (hv : (Int16.ofInt n).toInt32 = iI v) (hdg : decode cc pc = .ok (.sipush n, 3)) (k : W p l e R s m args below meth c H locs cells slots Q (F0 m (pc + 3) ls (.int (iI v) :: rest))) : W p l e R s m args below meth c H locs cells slots Q (F0 m pc ls rest) := lv_sipush X.1 X.2.1 hdg hv k
theorem ri_iinc (X : CallFix p m c cc nL s args TB own) {i k : Nat} {n a v : Int} {lv lv' : List (Nat × Value)} (hv : a + n = v) (hdg : decode cc pc = .ok (.iinc i n, 3)) (h : lv_has ls nL lv) (hk : lv[k]? = some (i, .int (iI a))) (hn : i < nL) (hl : (i, Value.int (iI v)) :: lv.filter (fun q => !(q.1 == i) && !(q.1 + 1 == i && q.2.category == 2)) = lv') (kk : ∀ ls : Array Slot, lv_has ls nL lv' → W p l e R s m args below meth c H locs cells slots Q (F0 m (pc + 3) ls rest)) : W p l e R s m args below meth c H locs cells slots Q (F0 m pc ls rest) :=
  lv_iinc X.1 X.2.1 hdg h hk (show iI a + iI n = iI v by rw [iI_add, hv]) hn hl kk
theorem rj_eq (X : CallFix p m c cc nL s args TB own) {a b off : Int} {tgt : Nat} (ha : -2147483648 ≤ a ∧ a < 2147483648) (hb : -2147483648 ≤ b ∧ b < 2147483648) (hdg : decode cc pc = .ok (.if_icmp .eq off, 3)) (ht : (pc : Int) + off = (tgt : Int)) (kt : a = b → W p l e R s m args below meth c H locs cells slots Q (F0 m tgt ls rest)) (kf : ¬ (a = b) → W p l e R s m args below meth c H locs cells slots Q (F0 m (pc + 3) ls rest)) : W p l e R s m args below meth c H locs cells slots Q (F0 m pc ls (.int (iI b) :: .int (iI a) :: rest)) := lv_icmp_eq X.1 X.2.1 hdg ht (fun h => kt ((iI_eq ha hb).mp h)) (fun h => kf (fun q => h ((iI_eq ha hb).mpr q)))
theorem rz_eq (X : CallFix p m c cc nL s args TB own) {a off : Int} {tgt : Nat} (ha : -2147483648 ≤ a ∧ a < 2147483648) (hdg : decode cc pc = .ok (.ifCond .eq off, 3)) (ht : (pc : Int) + off = (tgt : Int)) (kt : a = 0 → W p l e R s m args below meth c H locs cells slots Q (F0 m tgt ls rest)) (kf : ¬ (a = 0) → W p l e R s m args below meth c H locs cells slots Q (F0 m (pc + 3) ls rest)) : W p l e R s m args below meth c H locs cells slots Q (F0 m pc ls (.int (iI a) :: rest)) := lv_if_eq X.1 X.2.1 hdg ht (fun h => kt ((iI_eq ha (by omega)).mp h)) (fun h => kf (fun q => h ((iI_eq ha (by omega)).mpr q)))
theorem rj_ne (X : CallFix p m c cc nL s args TB own) {a b off : Int} {tgt : Nat} (ha : -2147483648 ≤ a ∧ a < 2147483648) (hb : -2147483648 ≤ b ∧ b < 2147483648) (hdg : decode cc pc = .ok (.if_icmp .ne off, 3)) (ht : (pc : Int) + off = (tgt : Int)) (kt : ¬ a = b → W p l e R s m args below meth c H locs cells slots Q (F0 m tgt ls rest)) (kf : a = b → W p l e R s m args below meth c H locs cells slots Q (F0 m (pc + 3) ls rest)) : W p l e R s m args below meth c H locs cells slots Q (F0 m pc ls (.int (iI b) :: .int (iI a) :: rest)) := lv_icmp_ne X.1 X.2.1 hdg ht (fun h => kt (fun q => h ((iI_eq ha hb).mpr q))) (fun h => kf ((iI_eq ha hb).mp h))
theorem rz_ne (X : CallFix p m c cc nL s args TB own) {a off : Int} {tgt : Nat} (ha : -2147483648 ≤ a ∧ a < 2147483648) (hdg : decode cc pc = .ok (.ifCond .ne off, 3)) (ht : (pc : Int) + off = (tgt : Int)) (kt : ¬ a = 0 → W p l e R s m args below meth c H locs cells slots Q (F0 m tgt ls rest)) (kf : a = 0 → W p l e R s m args below meth c H locs cells slots Q (F0 m (pc + 3) ls rest)) : W p l e R s m args below meth c H locs cells slots Q (F0 m pc ls (.int (iI a) :: rest)) := lv_if_ne X.1 X.2.1 hdg ht (fun h => kt (fun q => h ((iI_eq ha (by omega)).mpr q))) (fun h => kf ((iI_eq ha (by omega)).mp h))
theorem rj_lt (X : CallFix p m c cc nL s args TB own) {a b off : Int} {tgt : Nat} (ha : -2147483648 ≤ a ∧ a < 2147483648) (hb : -2147483648 ≤ b ∧ b < 2147483648) (hdg : decode cc pc = .ok (.if_icmp .lt off, 3)) (ht : (pc : Int) + off = (tgt : Int)) (kt : a < b → W p l e R s m args below meth c H locs cells slots Q (F0 m tgt ls rest)) (kf : ¬ (a < b) → W p l e R s m args below meth c H locs cells slots Q (F0 m (pc + 3) ls rest)) : W p l e R s m args below meth c H locs cells slots Q (F0 m pc ls (.int (iI b) :: .int (iI a) :: rest)) := lv_icmp_lt X.1 X.2.1 hdg ht (fun h => kt ((iI_lt ha hb).mp h)) (fun h => kf (fun q => h ((iI_lt ha hb).mpr q)))
theorem rz_lt (X : CallFix p m c cc nL s args TB own) {a off : Int} {tgt : Nat} (ha : -2147483648 ≤ a ∧ a < 2147483648) (hdg : decode cc pc = .ok (.ifCond .lt off, 3)) (ht : (pc : Int) + off = (tgt : Int)) (kt : a < 0 → W p l e R s m args below meth c H locs cells slots Q (F0 m tgt ls rest)) (kf : ¬ (a < 0) → W p l e R s m args below meth c H locs cells slots Q (F0 m (pc + 3) ls rest)) : W p l e R s m args below meth c H locs cells slots Q (F0 m pc ls (.int (iI a) :: rest)) := lv_if_lt X.1 X.2.1 hdg ht (fun h => kt ((iI_lt ha (by omega)).mp h)) (fun h => kf (fun q => h ((iI_lt ha (by omega)).mpr q)))
theorem rj_ge (X : CallFix p m c cc nL s args TB own) {a b off : Int} {tgt : Nat} (ha : -2147483648 ≤ a ∧ a < 2147483648) (hb : -2147483648 ≤ b ∧ b < 2147483648) (hdg : decode cc pc = .ok (.if_icmp .ge off, 3)) (ht : (pc : Int) + off = (tgt : Int)) (kt : b ≤ a → W p l e R s m args below meth c H locs cells slots Q (F0 m tgt ls rest)) (kf : ¬ (b ≤ a) → W p l e R s m args below meth c H locs cells slots Q (F0 m (pc + 3) ls rest)) : W p l e R s m args below meth c H locs cells slots Q (F0 m pc ls (.int (iI b) :: .int (iI a) :: rest)) := lv_icmp_ge X.1 X.2.1 hdg ht (fun h => kt ((iI_le hb ha).mp h)) (fun h => kf (fun q => h ((iI_le hb ha).mpr q)))
theorem rz_ge (X : CallFix p m c cc nL s args TB own) {a off : Int} {tgt : Nat} (ha : -2147483648 ≤ a ∧ a < 2147483648) (hdg : decode cc pc = .ok (.ifCond .ge off, 3)) (ht : (pc : Int) + off = (tgt : Int)) (kt : 0 ≤ a → W p l e R s m args below meth c H locs cells slots Q (F0 m tgt ls rest)) (kf : ¬ (0 ≤ a) → W p l e R s m args below meth c H locs cells slots Q (F0 m (pc + 3) ls rest)) : W p l e R s m args below meth c H locs cells slots Q (F0 m pc ls (.int (iI a) :: rest)) := lv_if_ge X.1 X.2.1 hdg ht (fun h => kt ((iI_le (by omega) ha).mp h)) (fun h => kf (fun q => h ((iI_le (by omega) ha).mpr q)))
theorem rj_gt (X : CallFix p m c cc nL s args TB own) {a b off : Int} {tgt : Nat} (ha : -2147483648 ≤ a ∧ a < 2147483648) (hb : -2147483648 ≤ b ∧ b < 2147483648) (hdg : decode cc pc = .ok (.if_icmp .gt off, 3)) (ht : (pc : Int) + off = (tgt : Int)) (kt : b < a → W p l e R s m args below meth c H locs cells slots Q (F0 m tgt ls rest)) (kf : ¬ (b < a) → W p l e R s m args below meth c H locs cells slots Q (F0 m (pc + 3) ls rest)) : W p l e R s m args below meth c H locs cells slots Q (F0 m pc ls (.int (iI b) :: .int (iI a) :: rest)) := lv_icmp_gt X.1 X.2.1 hdg ht (fun h => kt ((iI_lt hb ha).mp h)) (fun h => kf (fun q => h ((iI_lt hb ha).mpr q)))
theorem rz_gt (X : CallFix p m c cc nL s args TB own) {a off : Int} {tgt : Nat} (ha : -2147483648 ≤ a ∧ a < 2147483648) (hdg : decode cc pc = .ok (.ifCond .gt off, 3)) (ht : (pc : Int) + off = (tgt : Int)) (kt : 0 < a → W p l e R s m args below meth c H locs cells slots Q (F0 m tgt ls rest)) (kf : ¬ (0 < a) → W p l e R s m args below meth c H locs cells slots Q (F0 m (pc + 3) ls rest)) : W p l e R s m args below meth c H locs cells slots Q (F0 m pc ls (.int (iI a) :: rest)) := lv_if_gt X.1 X.2.1 hdg ht (fun h => kt ((iI_lt (by omega) ha).mp h)) (fun h => kf (fun q => h ((iI_lt (by omega) ha).mpr q)))
theorem rj_le (X : CallFix p m c cc nL s args TB own) {a b off : Int} {tgt : Nat} (ha : -2147483648 ≤ a ∧ a < 2147483648) (hb : -2147483648 ≤ b ∧ b < 2147483648) (hdg : decode cc pc = .ok (.if_icmp .le off, 3)) (ht : (pc : Int) + off = (tgt : Int)) (kt : a ≤ b → W p l e R s m args below meth c H locs cells slots Q (F0 m tgt ls rest)) (kf : ¬ (a ≤ b) → W p l e R s m args below meth c H locs cells slots Q (F0 m (pc + 3) ls rest)) : W p l e R s m args below meth c H locs cells slots Q (F0 m pc ls (.int (iI b) :: .int (iI a) :: rest)) := lv_icmp_le X.1 X.2.1 hdg ht (fun h => kt ((iI_le ha hb).mp h)) (fun h => kf (fun q => h ((iI_le ha hb).mpr q)))
theorem rz_le (X : CallFix p m c cc nL s args TB own) {a off : Int} {tgt : Nat} (ha : -2147483648 ≤ a ∧ a < 2147483648) (hdg : decode cc pc = .ok (.ifCond .le off, 3)) (ht : (pc : Int) + off = (tgt : Int)) (kt : a ≤ 0 → W p l e R s m args below meth c H locs cells slots Q (F0 m tgt ls rest)) (kf : ¬ (a ≤ 0) → W p l e R s m args below meth c H locs cells slots Q (F0 m (pc + 3) ls rest)) : W p l e R s m args below meth c H locs cells slots Q (F0 m pc ls (.int (iI a) :: rest)) := lv_if_le X.1 X.2.1 hdg ht (fun h => kt ((iI_le ha (by omega)).mp h)) (fun h => kf (fun q => h ((iI_le ha (by omega)).mpr q)))
/-! cells -/
variable {K : Sd} {S : St} {H0 : Heap} {a : Nat}
theorem gI (X : CallFix p m c cc nL s args TB own) (I : In K s H0 H locs S) {C : String} {T : u_T} {N ci index : Nat} {fs : List Value} {v : Value} (q0 : Nat) (he : (K.2.2.1 S)[q0]? = some (a, .inr (ci, fs))) (hc : vwCl[ci]? = some (C, T, N)) (hin : ∀ w ∈ u_ws C T N, w ∈ TB) (k : Nat) (hk : k < N) (hlink : Cond.fieldLink own index (T k).1 (T k).2.1 (T k).2.2.1 ∈ TB) (hv : fs[k]? = some v) (hdg : decode cc pc = .ok (.getfield index, 3))
    (kk : W p l e R s m args below meth c H locs cells slots Q (F0 m (pc + 3) ls (v :: rest))) : W p l e R s m args below meth c H locs cells slots Q (F0 m pc ls (.ref a :: rest)) :=
  va_get (ref := (T k).1) X.1 X.2.1 X.2.2.2.2 hin X.2.2.2.1 I.1 I.2.1 q0 he hc k hk (X.2.2.2.2 _ hlink) (fun _ h => h) hv hdg kk
theorem pI (X : CallFix p m c cc nL s args TB own) (I : In K s H0 H locs S) {S1 : St} {C : String} {T : u_T} {N ci index : Nat} {fs : List Value} {v : Int} (q0 : Nat) (he : (K.2.2.1 S)[q0]? = some (a, .inr (ci, fs))) (hc : vwCl[ci]? = some (C, T, N)) (hin : ∀ w ∈ u_ws C T N, w ∈ TB) (ty0 : Nat → FieldType) (hty : ∀ k, k < N → parseFieldDescriptor (T k).2.2.1 = some (ty0 k)) (hnm : ∀ a, a < N → ∀ b, b < N → a ≠ b → (T a).2.1 ≠ (T b).2.1) (k : Nat) (hk : k < N) (hlink : Cond.fieldLink own index (T k).1 (T k).2.1 (T k).2.2.1 ∈ TB) (hfin : (T k).2.2.2 = false) (hd : parseFieldDescriptor (T k).2.2.1 = some .int) (hl : k < fs.length)
    (hset : (K.2.2.1 S).set q0 (a, .inr (ci, fs.set k (.int (iI v)))) = K.2.2.1 S1) (hdg : decode cc pc = .ok (.putfield index, 3))
    (kk : ∀ (H1 : Heap) (locs1 : List Loc), In K s H0 H1 locs1 S1 → W p l e R s m args below meth c H1 locs1 cells slots Q (F0 m (pc + 3) ls rest)) : W p l e R s m args below meth c H locs cells slots Q (F0 m pc ls (.int (iI v) :: .ref a :: rest)) :=
  va_put (ref := (T k).1) X.1 X.2.1 X.2.2.2.2 hin ty0 hty hnm X.2.2.2.1 I.1 I.2.1 I.2.2.1 I.2.2.2.1 q0 he hc k hk (X.2.2.2.2 _ hlink) (fun _ h => h) hfin hd rfl rfl hl hdg (fun H1 locs1 hP hD hS => kk H1 locs1 ⟨I.1, by rw [← hset]; exact hP, by rw [← hset]; exact hD, hS, I.2.2.2.2⟩)
theorem aldI (X : CallFix p m c cc nL s args TB own) (I : In K s H0 H locs S) {z : Int} {f : Int → Int} {n : Nat} {cA : ClassId} (q0 t0 : Nat) (ha : (K.2.2.1 S)[q0]? = some (a, .inl (cA, n, .inl (fun j : Nat => iI (f j))))) (ht : K.2.1[t0]? = some (cA, .int)) (h0 : 0 ≤ z ∧ z < n) (hn : n < 2147483648) (hdg : decode cc pc = .ok (.iaload, 1))
    (kk : W p l e R s m args below meth c H locs cells slots Q (F0 m (pc + 1) ls (.int (iI (f z)) :: rest))) : W p l e R s m args below meth c H locs cells slots Q (F0 m pc ls (.int (iI z) :: .ref a :: rest)) := by
  refine va_iald X.1 X.2.1 I.1 I.2.1 q0 t0 ha ht (iI_in h0.1 h0.2 hn) hdg ?_
  rw [show (((iI z).toNatClampNeg : Nat) : Int) = z from iI_cl h0.1 (by omega)]; exact kk
theorem aldC (X : CallFix p m c cc nL s args TB own) (I : In K s H0 H locs S) {z : Int} {f : Int → Int} {n : Nat} {cA : ClassId} (q0 t0 : Nat) (ha : (K.2.2.1 S)[q0]? = some (a, .inl (cA, n, .inl (fun j : Nat => iI (f j))))) (ht : K.2.1[t0]? = some (cA, .char)) (h0 : 0 ≤ z ∧ z < n) (hn : n < 2147483648) (hdg : decode cc pc = .ok (.caload, 1))
    (kk : W p l e R s m args below meth c H locs cells slots Q (F0 m (pc + 1) ls (.int (iI (f z)) :: rest))) : W p l e R s m args below meth c H locs cells slots Q (F0 m pc ls (.int (iI z) :: .ref a :: rest)) := by
  refine va_cald X.1 X.2.1 I.1 I.2.1 q0 t0 ha ht (iI_in h0.1 h0.2 hn) hdg ?_
  rw [show (((iI z).toNatClampNeg : Nat) : Int) = z from iI_cl h0.1 (by omega)]; exact kk
theorem aldL (X : CallFix p m c cc nL s args TB own) (I : In K s H0 H locs S) {z : Int} {f : Int → Int} {n : Nat} {cA : ClassId} (q0 t0 : Nat) (ha : (K.2.2.1 S)[q0]? = some (a, .inl (cA, n, .inr (.inl (fun j : Nat => lI (f j)))))) (ht : K.2.1[t0]? = some (cA, .long)) (h0 : 0 ≤ z ∧ z < n) (hn : n < 2147483648) (hdg : decode cc pc = .ok (.laload, 1))
    (kk : W p l e R s m args below meth c H locs cells slots Q (F0 m (pc + 1) ls (.long (lI (f z)) :: rest))) : W p l e R s m args below meth c H locs cells slots Q (F0 m pc ls (.int (iI z) :: .ref a :: rest)) := by
  refine va_lald X.1 X.2.1 I.1 I.2.1 q0 t0 ha ht (iI_in h0.1 h0.2 hn) hdg ?_
  rw [show (((iI z).toNatClampNeg : Nat) : Int) = z from iI_cl h0.1 (by omega)]; exact kk
theorem aldR (X : CallFix p m c cc nL s args TB own) (I : In K s H0 H locs S) {z : Int} {f : Nat → Option Nat} {n r : Nat} {C : String} {cA : ClassId} (q0 t0 : Nat) (ha : (K.2.2.1 S)[q0]? = some (a, .inl (cA, n, .inr (.inr (.inr (.inr f)))))) (ht : K.2.1[t0]? = some (cA, .object C)) (h0 : 0 ≤ z ∧ z < n) (hn : n < 2147483648) (hr : f z.toNat = some r) (hdg : decode cc pc = .ok (.aaload, 1))
    (kk : W p l e R s m args below meth c H locs cells slots Q (F0 m (pc + 1) ls (.ref r :: rest))) : W p l e R s m args below meth c H locs cells slots Q (F0 m pc ls (.int (iI z) :: .ref a :: rest)) := by
  refine va_aldq X.1 X.2.1 I.1 I.2.1 q0 t0 ha ht (iI_in h0.1 h0.2 hn) hdg ?_
  have e := iI_cl h0.1 (show z < 2147483648 by omega)
  rw [show (iI z).toNatClampNeg = z.toNat by omega, hr]; exact kk
theorem aldA (X : CallFix p m c cc nL s args TB own) (I : In K s H0 H locs S) {z : Int} {f : Nat → Option Nat} {n r : Nat} {cA : ClassId} (q0 t0 : Nat) (ha : (K.2.2.1 S)[q0]? = some (a, .inl (cA, n, .inr (.inr (.inr (.inr f)))))) (ht : K.2.1[t0]? = some (cA, .array .int)) (h0 : 0 ≤ z ∧ z < n) (hn : n < 2147483648) (hr : f z.toNat = some r) (hdg : decode cc pc = .ok (.aaload, 1))
    (kk : W p l e R s m args below meth c H locs cells slots Q (F0 m (pc + 1) ls (.ref r :: rest))) : W p l e R s m args below meth c H locs cells slots Q (F0 m pc ls (.int (iI z) :: .ref a :: rest)) := by
  have hin := iI_in h0.1 h0.2 hn
  have hlt : (iI z).toNatClampNeg < n := Nat.not_le.mp fun q => hin (Or.inr q)
  have e := iI_cl h0.1 (show z < 2147483648 by omega)
  refine W.aald (v := .ref r) (ty := .array .int) X.1 X.2.1 (I.2.1 q0 _ ha) ((I.1.2 t0 _ ht).1 n (fun j => va_rf (f j))) rfl (fun q => by cases q) (by show ¬ (iI z < 0 ∨ (arrV _ _ _).slots.size ≤ _); rw [arrV_size]; exact hin) (by show (arrV _ _ _).slots[_]? = _; rw [arrV_read _ _ hlt, show (iI z).toNatClampNeg = z.toNat by omega, hr]; rfl) rfl rfl hdg kk
theorem astI (X : CallFix p m c cc nL s args TB own) (I : In K s H0 H locs S) {S1 : St} {z v : Int} {f : Nat → Int → Int} {k : Nat} {n : Nat} {cA : ClassId} (q0 t0 : Nat) (ha : (K.2.2.1 S)[q0]? = some (a, .inl (cA, n, .inl (fun j : Nat => iI (f k j))))) (ht : K.2.1[t0]? = some (cA, .int)) (h0 : 0 ≤ z ∧ z < n) (hn : n < 2147483648)
    (hset : (K.2.2.1 S).set q0 (a, .inl (cA, n, .inl (fun j : Nat => iI (ua f k z v k j)))) = K.2.2.1 S1) (hdg : decode cc pc = .ok (.iastore, 1))
    (kk : ∀ (H1 : Heap) (locs1 : List Loc), In K s H0 H1 locs1 S1 → W p l e R s m args below meth c H1 locs1 cells slots Q (F0 m (pc + 1) ls rest)) : W p l e R s m args below meth c H locs cells slots Q (F0 m pc ls (.int (iI v) :: .int (iI z) :: .ref a :: rest)) := by
  refine va_iast X.1 X.2.1 I.1 I.2.1 I.2.2.1 I.2.2.2.1 q0 t0 ha ht (iI_in h0.1 h0.2 hn) hdg (fun H1 locs1 hP hD hS => ?_)
  rw [upd_ua h0.1 (by omega), hset] at hP hD
  exact kk H1 locs1 ⟨I.1, hP, hD, hS, I.2.2.2.2⟩
theorem astC (X : CallFix p m c cc nL s args TB own) (I : In K s H0 H locs S) {S1 : St} {z v : Int} {f : Nat → Int → Int} {k : Nat} {n : Nat} {cA : ClassId} (q0 t0 : Nat) (ha : (K.2.2.1 S)[q0]? = some (a, .inl (cA, n, .inl (fun j : Nat => iI (f k j))))) (ht : K.2.1[t0]? = some (cA, .char)) (h0 : 0 ≤ z ∧ z < n) (hn : n < 2147483648) (hv : 0 ≤ v ∧ v < 65536)
    (hset : (K.2.2.1 S).set q0 (a, .inl (cA, n, .inl (fun j : Nat => iI (ua f k z v k j)))) = K.2.2.1 S1) (hdg : decode cc pc = .ok (.castore, 1))
    (kk : ∀ (H1 : Heap) (locs1 : List Loc), In K s H0 H1 locs1 S1 → W p l e R s m args below meth c H1 locs1 cells slots Q (F0 m (pc + 1) ls rest)) : W p l e R s m args below meth c H locs cells slots Q (F0 m pc ls (.int (iI v) :: .int (iI z) :: .ref a :: rest)) := by
  refine va_cast X.1 X.2.1 I.1 I.2.1 I.2.2.1 I.2.2.2.1 q0 t0 ha ht (iI_in h0.1 h0.2 hn) hdg (fun H1 locs1 hP hD hS => ?_)
  rw [(iI_char hv.1 hv.2).2.2.1, upd_ua h0.1 (by omega), hset] at hP hD
  exact kk H1 locs1 ⟨I.1, hP, hD, hS, I.2.2.2.2⟩
theorem astL (X : CallFix p m c cc nL s args TB own) (I : In K s H0 H locs S) {S1 : St} {z v : Int} {f : Nat → Int → Int} {k : Nat} {n : Nat} {cA : ClassId} (q0 t0 : Nat) (ha : (K.2.2.1 S)[q0]? = some (a, .inl (cA, n, .inr (.inl (fun j : Nat => lI (f k j)))))) (ht : K.2.1[t0]? = some (cA, .long)) (h0 : 0 ≤ z ∧ z < n) (hn : n < 2147483648)
    (hset : (K.2.2.1 S).set q0 (a, .inl (cA, n, .inr (.inl (fun j : Nat => lI (ua f k z v k j))))) = K.2.2.1 S1) (hdg : decode cc pc = .ok (.lastore, 1))
    (kk : ∀ (H1 : Heap) (locs1 : List Loc), In K s H0 H1 locs1 S1 → W p l e R s m args below meth c H1 locs1 cells slots Q (F0 m (pc + 1) ls rest)) : W p l e R s m args below meth c H locs cells slots Q (F0 m pc ls (.long (lI v) :: .int (iI z) :: .ref a :: rest)) := by
  refine va_last X.1 X.2.1 I.1 I.2.1 I.2.2.1 I.2.2.2.1 q0 t0 ha ht (iI_in h0.1 h0.2 hn) hdg (fun H1 locs1 hP hD hS => ?_)
  rw [updL_ua h0.1 (by omega), hset] at hP hD
  exact kk H1 locs1 ⟨I.1, hP, hD, hS, I.2.2.2.2⟩
/-! ends -/
theorem rt_i {post : Int → St → Prop} {v : Int} {ret : FieldType} (X : CallFix p m c cc nL s args TB own) (hr : meth.sig.returnType = some ret) (hlk : meth.locks = false) (I : In K s s.heap H locs S) (hn : narrow ret (.int (iI v)) = .int (iI v)) (hq : post v S) (hdg : decode cc pc = .ok (.ireturn, 1)) : W p l e R s m args below meth c H locs cells slots (MQ below (QI K post) args s cells slots K.2.2.2) (F0 m pc ls [.int (iI v)]) :=
  W.zret (v := iI v) X.1 X.2.1 hr hn (fun t ht hW => ⟨⟨iI v, S, rfl, ⟨v, rfl, hq⟩, I.wc ht hW⟩, I.2.2.2.1.F ht⟩) I.2.2.2.1.2.2 hdg hlk
theorem rt_l {post : Int → St → Prop} {v : Int} (X : CallFix p m c cc nL s args TB own) (hr : meth.sig.returnType = some .long) (hlk : meth.locks = false) (I : In K s s.heap H locs S) (hq : post v S) (hdg : decode cc pc = .ok (.lreturn, 1)) : W p l e R s m args below meth c H locs cells slots (MQ below (QL K post) args s cells slots K.2.2.2) (F0 m pc ls [.long (lI v)]) :=
  W.lret (v := lI v) X.1 X.2.1 hr (fun t ht hW => ⟨⟨lI v, S, rfl, ⟨v, rfl, hq⟩, I.wc ht hW⟩, I.2.2.2.1.F ht⟩) I.2.2.2.1.2.2 hdg hlk
theorem rt_v {post : St → Prop} (X : CallFix p m c cc nL s args TB own) (hr : meth.sig.returnType = none) (hlk : meth.locks = false) (I : In K s s.heap H locs S) (hq : post S) (hdg : decode cc pc = .ok (.return_, 1)) : W p l e R s m args below meth c H locs cells slots (MQ below (QV K post) args s cells slots K.2.2.2) (F0 m pc ls []) :=
  W.vret X.1 X.2.1 hr (fun t ht hW => ⟨⟨S, rfl, hq, I.wc ht hW⟩, I.2.2.2.1.F ht⟩) I.2.2.2.1.2.2 hdg hlk
/-! calls -/
theorem In.call {t : State} {H1 : Heap} {locs1 : List Loc} {S1 : St} (I : In K s H0 H locs S) (hB : WC K S1 t) (ht : t.heap = H1) (hS : va_S K.2.2.2 H0 H1 locs1) : In K s H0 H1 locs1 S1 := ⟨I.1, by rw [← ht]; exact hB.2.1, hB.2.2.1, hS, I.2.2.2.2⟩
variable {y : MethodName} {bytes : ByteArray} {maxL index n : Nat} {rm : Room} {b : Nat} {As : List Value} {st : List Value}
theorem PreS.of (I : In K s H0 H locs S) : PreS s H (va_Pc As (WC K S)) As := ⟨WC.blind, fun U hU hW => ⟨rfl, I.wc hU hW⟩⟩
theorem PreV.of (I : In K s H0 H locs S) {q0 ci N : Nat} {C : String} {T : u_T} {fs : List Value} (he : (K.2.2.1 S)[q0]? = some (b, .inr (ci, fs))) (hc : vwCl[ci]? = some (C, T, N)) : PreV s H C b (va_Pc (.ref b :: As) (WC K S)) As := ⟨WC.blind, va_recv I.1 I.2.1 hc he, fun U hU hW => ⟨rfl, I.wc hU hW⟩⟩
/-- what a call asks of its callee's name and of the room -/
abbrev cOk (y : MethodName) (n maxL : Nat) (rm R : Room) : Prop := (y.cls ≠ "java/lang/invoke/MethodHandle" ∧ y.cls ≠ "java/lang/invoke/VarHandle" ∧ (parseMethodDescriptor y.desc).map (fun d => d.parameters.length) = some n) ∧ (rm.frames + 1 ≤ R.frames ∧ 8 + (maxL + 11) + rm.locals ≤ R.locals) ∧ rm.cells = 0 ∧ rm.slots = 0
theorem runV {Pc : Array Value → State → Prop} {Qc : Array Value → State → Outcome → State → Prop} {free : Addr → Prop} {ret : Option FieldType} (X : CallFix p m c cc nL s args TB own) (hM : Met l y (.code y bytes maxL ret :: TB) rm Pc Qc 0 0 free) (hw : GoodIn TB (wsV own index y.cls y (.code y bytes maxL ret :: TB))) (ho : cOk y n maxL rm R) (hp : PreV s H y.cls b Pc As) (hn : As.length = n) (hl : ls.size = nL) (hst : st = As.reverse ++ .ref b :: rest) (hW : (rest.map fun v => v.category).sum ≤ 8) (hdg : decode cc pc = .ok (.invokevirtual index, 3)) (hf : cells ≤ R.cells ∧ slots ≤ R.slots) :
    va_Run p l e R s m args below meth c H locs cells slots 0 0 (F0 m pc ls st) rest (Qc (Value.ref b :: As).toArray) free :=
  va_runV X hM (cwV n X.2.2.2.2 hw rfl ho.2.2.1 ho.2.2.2 ⟨rfl, ho.1⟩ ho.2.1) hp rfl hn hl hst (lv_room hW) hdg hf
theorem runS {Pc : Array Value → State → Prop} {Qc : Array Value → State → Outcome → State → Prop} {free : Addr → Prop} {ret : Option FieldType} (X : CallFix p m c cc nL s args TB own) (hM : Met l y (.code y bytes maxL ret :: TB) rm Pc Qc 0 0 free) (hw : GoodIn TB (.code y bytes maxL ret :: TB)) (hlk : Cond.methodLink own index y ∈ TB) (hst2 : Cond.static y ∈ TB) (hini : Cond.initialized y.cls ∈ TB) (ho : cOk y n maxL rm R) (hp : PreS s H Pc As) (hn : As.length = n) (hl : ls.size = nL) (hst : st = As.reverse ++ rest) (hW : (rest.map fun v => v.category).sum ≤ 8) (hdg : decode cc pc = .ok (.invokestatic index, 3)) (hf : cells ≤ R.cells ∧ slots ≤ R.slots) :
    va_Run p l e R s m args below meth c H locs cells slots 0 0 (F0 m pc ls st) rest (Qc As.toArray) free :=
  va_runS X hM ⟨callB_of n X.2.2.2.2 hw rfl ho.2.2.1 ho.2.2.2 (X.2.2.2.2 _ hini) (X.2.2.2.2 _ hlk) ho.1 ho.2.1, X.2.2.2.2 _ hst2⟩ hp rfl hn hl hst (lv_room hW) hdg hf
theorem runSN {Pc : Array Value → State → Prop} {Qc : Array Value → State → Outcome → State → Prop} {free : Addr → Prop} {ret : Option FieldType} {host : String} (X : CallFix p m c cc nL s args TB own) (hM : Met l y (.code y bytes maxL ret :: TB) rm Pc Qc 0 0 free) (hw : GoodIn TB (.code y bytes maxL ret :: TB)) (hlk : va_Nw (.methodLinkNest own index y host) s) (hst2 : Cond.static y ∈ TB) (hini : Cond.initialized y.cls ∈ TB) (ho : cOk y n maxL rm R) (hp : PreS s H Pc As) (hn : As.length = n) (hl : ls.size = nL) (hst : st = As.reverse ++ rest) (hW : (rest.map fun v => v.category).sum ≤ 8) (hdg : decode cc pc = .ok (.invokestatic index, 3)) (hf : cells ≤ R.cells ∧ slots ≤ R.slots) :
    va_Run p l e R s m args below meth c H locs cells slots 0 0 (F0 m pc ls st) rest (Qc As.toArray) free :=
  va_runSN X hM ⟨va_cnB n X.2.2.2.2 hw rfl ho.2.2.1 ho.2.2.2 hlk (X.2.2.2.2 _ hini) ho.1 ho.2.1, X.2.2.2.2 _ hst2, trivial⟩ hp rfl hn hl hst (lv_room hW) hdg hf
theorem cl_i {post : Int → St → Prop} {aa : Array Value} (I : In K s H0 H locs S) (hr : va_Run p l e R s m args below meth c H locs cells slots 0 0 (F0 m pc ls st) rest (QI K post aa) K.2.2.2) (kk : ∀ (z : Int) (S1 : St) (H1 : Heap) (locs1 : List Loc), post z S1 → In K s H0 H1 locs1 S1 → W p l e R s m args below meth c H1 locs1 cells slots Q (F0 m (pc + 3) ls (.int (iI z) :: rest))) : W p l e R s m args below meth c H locs cells slots Q (F0 m pc ls st) :=
  va_calli hr I.2.2.2.1 (fun _ _ h => h) (fun _ h => h) (fun r u t H1 locs1 ht _ hp hB _ _ hS => by
    obtain ⟨z, rfl, hq⟩ := hp
    exact kk z u H1 locs1 hq (I.call hB ht hS))
theorem cl_l {post : Int → St → Prop} {aa : Array Value} (I : In K s H0 H locs S) (hr : va_Run p l e R s m args below meth c H locs cells slots 0 0 (F0 m pc ls st) rest (QL K post aa) K.2.2.2) (kk : ∀ (z : Int) (S1 : St) (H1 : Heap) (locs1 : List Loc), post z S1 → In K s H0 H1 locs1 S1 → W p l e R s m args below meth c H1 locs1 cells slots Q (F0 m (pc + 3) ls (.long (lI z) :: rest))) : W p l e R s m args below meth c H locs cells slots Q (F0 m pc ls st) :=
  va_calll hr I.2.2.2.1 (fun _ _ h => h) (fun _ h => h) (fun r u t H1 locs1 ht _ hp hB _ _ hS => by
    obtain ⟨z, rfl, hq⟩ := hp
    exact kk z u H1 locs1 hq (I.call hB ht hS))
theorem cl_v {post : St → Prop} {aa : Array Value} (I : In K s H0 H locs S) (hr : va_Run p l e R s m args below meth c H locs cells slots 0 0 (F0 m pc ls st) rest (QV K post aa) K.2.2.2) (kk : ∀ (S1 : St) (H1 : Heap) (locs1 : List Loc), post S1 → In K s H0 H1 locs1 S1 → W p l e R s m args below meth c H1 locs1 cells slots Q (F0 m (pc + 3) ls rest)) : W p l e R s m args below meth c H locs cells slots Q (F0 m pc ls st) :=
  va_callv hr I.2.2.2.1 (fun _ _ h => h) (fun _ h => h) (fun u t H1 locs1 ht _ hp hB _ _ hS => kk u H1 locs1 hp (I.call hB ht hS))
end ROWS
