def wL (G : Ge) (S : St) : va_W := wC G S ++ [(G.2.2 57, .inl (G.2.1 1, 32, .inl (fun i : Nat => iI (S.1 70 i)))), (G.2.2 58, .inl (G.2.1 2, 8, .inr (.inl (fun i : Nat => lI (S.1 71 i))))), (G.2.2 59, .inl (G.2.1 1, 8, .inl (fun i : Nat => iI (S.1 72 i)))), (G.2.2 60, .inl (G.2.1 1, 24, .inl (fun i : Nat => iI (S.1 73 i))))]
def frL (G : Ge) : Nat → Prop := fun q => ∃ i : Nat, i < 61 ∧ q = G.2.2 i
abbrev KL (A : Nat → Prop) (G : Ge) : Sd := (G.1, tysK G, wL G, A)
theorem va_D.left {A : Nat → Prop} {w1 w2 : va_W} (h : va_D A (w1 ++ w2)) : va_D A w1 := ⟨fun i j x z hx hz => h.1 i j x z (by rw [List.getElem?_append_left (List.getElem?_eq_some_iff.mp hx).1]; exact hx) (by rw [List.getElem?_append_left (List.getElem?_eq_some_iff.mp hz).1]; exact hz), fun k x hx => h.2 k x (by rw [List.getElem?_append_left (List.getElem?_eq_some_iff.mp hx).1]; exact hx)⟩
theorem va_getR {w1 w2 : va_W} {k : Nat} {x : Nat × va_E} (hx : w2[k]? = some x) : (w1 ++ w2)[w1.length + k]? = some x := by rw [List.getElem?_append_right (Nat.le_add_right _ _), Nat.add_sub_cancel_left]; exact hx
theorem va_getL {w1 w2 : va_W} {k : Nat} {x : Nat × va_E} (hx : w1[k]? = some x) : (w1 ++ w2)[k]? = some x := by rw [List.getElem?_append_left (List.getElem?_eq_some_iff.mp hx).1]; exact hx
theorem va_D.right {A : Nat → Prop} {w1 w2 : va_W} (h : va_D A (w1 ++ w2)) : va_D A w2 := ⟨fun i j x z hx hz e => by
  have := h.1 _ _ x z (va_getR hx) (va_getR hz) e
  omega, fun k x hx => h.2 _ x (va_getR hx)⟩
theorem va_D.two {A : Nat → Prop} {w1 w2 : va_W} (h : va_D A (w1 ++ w2)) {i j : Nat} {x z : Nat × va_E} (hx : w1[i]? = some x) (hz : w2[j]? = some z) : ¬ x.1 = z.1 := fun e => by
  have := h.1 _ _ x z (va_getL hx) (va_getR hz) e
  have := (List.getElem?_eq_some_iff.mp hx).1
  omega
theorem va_P.left {D : va_G} {cl : List vw_C} {w1 w2 : va_W} {H : Heap} (h : va_P D cl (w1 ++ w2) H) : va_P D cl w1 H := fun k x hx => h k x (va_getL hx)
theorem va_P.right {D : va_G} {cl : List vw_C} {w1 w2 : va_W} {H : Heap} (h : va_P D cl (w1 ++ w2) H) : va_P D cl w2 H := fun k x hx => h _ x (va_getR hx)
theorem va_D.same {A : Nat → Prop} {w1 w2 : va_W} (h : w1.map Prod.fst = w2.map Prod.fst) (hD : va_D A w1) : va_D A w2 := by
  have key : ∀ (i : Nat) (x : Nat × va_E), w2[i]? = some x → ∃ y : Nat × va_E, w1[i]? = some y ∧ y.1 = x.1 := fun i x hx => by
    have h1 : (w1.map Prod.fst)[i]? = some x.1 := by rw [h, List.getElem?_map, hx]; rfl
    rw [List.getElem?_map] at h1
    exact Option.map_eq_some_iff.mp h1
  refine ⟨fun i j x z hx hz e => ?_, fun k x hx => ?_⟩
  · obtain ⟨y, y1, y2⟩ := key i x hx
    obtain ⟨v, v1, v2⟩ := key j z hz
    exact hD.1 i j y v y1 v1 (by rw [y2, v2, e])
  · obtain ⟨y, y1, y2⟩ := key k x hx
    rw [← y2]; exact hD.2 k y y1
theorem wL_map (G : Ge) (S : St) : (wL G S).map Prod.fst = (List.range 61).map G.2.2 := rfl
theorem wCl_map (G : Ge) (S : St) : (wC G S).map Prod.fst = (List.range 57).map G.2.2 := rfl
theorem frCl_in {G : Ge} {A : Nat → Prop} {S : St} (hD : va_D A (wC G S)) : va_D (frC G) (wC G S) := ⟨hD.1, fun k x hx => by
  have h1 : ((wC G S).map Prod.fst)[k]? = some x.1 := by rw [List.getElem?_map, hx]; rfl
  rw [wCl_map] at h1
  obtain ⟨i, hi, he⟩ := List.mem_map.mp (List.mem_of_getElem? h1)
  exact ⟨i, List.mem_range.mp hi, he.symm⟩⟩
theorem frCl_of {G : Ge} {A : Nat → Prop} {S : St} (hD : va_D A (wC G S)) : ∀ q : Nat, frC G q → A q := by
  rintro q ⟨i, hi, rfl⟩
  have h1 : ((wC G S).map Prod.fst)[i]? = some (G.2.2 i) := by rw [wCl_map, List.getElem?_map, List.getElem?_range hi]; rfl
  rw [List.getElem?_map] at h1
  obtain ⟨x, hx, he⟩ := Option.map_eq_some_iff.mp h1
  rw [← he]; exact hD.2 i x hx
abbrev wT (G : Ge) (S : St) : va_W := [(G.2.2 57, .inl (G.2.1 1, 32, .inl (fun i : Nat => iI (S.1 70 i)))), (G.2.2 58, .inl (G.2.1 2, 8, .inr (.inl (fun i : Nat => lI (S.1 71 i))))), (G.2.2 59, .inl (G.2.1 1, 8, .inl (fun i : Nat => iI (S.1 72 i)))), (G.2.2 60, .inl (G.2.1 1, 24, .inl (fun i : Nat => iI (S.1 73 i))))]
theorem wT_same {G : Ge} {S S1 : St} (h : ∀ (c_ : Nat) (i : Int), 70 ≤ c_ → S1.1 c_ i = S.1 c_ i) : wT G S1 = wT G S := by
  have e0 : S1.1 70 = S.1 70 := funext (fun i => h 70 i (by decide))
  have e1 : S1.1 71 = S.1 71 := funext (fun i => h 71 i (by decide))
  have e2 : S1.1 72 = S.1 72 := funext (fun i => h 72 i (by decide))
  have e3 : S1.1 73 = S.1 73 := funext (fun i => h 73 i (by decide))
  unfold wT
  rw [e0, e1, e2, e3]

section SDL
variable {p : Program} {l : Launch} {e : Env} {R : Room} {s : State} {m : MethodId} {args : Array Value} {below : List Frame} {meth : Method} {c : Code} {H : Heap} {locs : List Loc} {cells slots : Nat} {Q : State → Prop}
variable {cc : ByteArray} {pc nL : Nat} {ls : Array Slot} {rest : List Value} {own : String} {S : St} {H0 : Heap} {G : Ge} {A : Nat → Prop}
theorem atL_ns : (wL G S)[0]? = some (G.2.2 0, .inr (9, [.ref (G.2.2 1), .ref (G.2.2 3), .ref (G.2.2 5), .ref (G.2.2 (6 + 2 * 0)), .ref (G.2.2 (6 + 2 * 1)), .ref (G.2.2 14), .ref (G.2.2 15), .ref (G.2.2 31), .ref (G.2.2 36), .ref (G.2.2 38), .int (iI (S.1 56 0)), .int (iI (S.1 57 0)), .int (iI (S.1 58 0)), .int (iI (S.1 59 0))])) := rfl
theorem atL_lt_a : (wL G S)[57]? = some (G.2.2 57, .inl (G.2.1 1, 32, .inl (fun i : Nat => iI (S.1 70 i)))) := rfl
theorem aL_lt (X : CallFix p m c cc nL s args TB own) (I : In (KL A G) s H0 H locs S) {z v : Int} (hv : S.1 70 z = v) (h0 : 0 ≤ z ∧ z < 32) (hdg : decode cc pc = .ok (.iaload, 1)) (kk : W p l e R s m args below meth c H locs cells slots Q (F0 m (pc + 1) ls (.int (iI v) :: rest))) : W p l e R s m args below meth c H locs cells slots Q (F0 m pc ls (.int (iI z) :: .ref (G.2.2 57) :: rest)) := by
  subst hv
  exact aldI X I _ 1 (atL_lt_a) rfl h0 (by decide) hdg kk
theorem sL_lt_a {z v : Int} : (wL G S).set 57 (G.2.2 57, .inl (G.2.1 1, 32, .inl (fun i : Nat => iI (ua S.1 70 z v 70 i)))) = wL G (ua S.1 70 z v, S.2) := rfl
theorem qL_lt (X : CallFix p m c cc nL s args TB own) (I : In (KL A G) s H0 H locs S) {z v : Int} (h0 : 0 ≤ z ∧ z < 32) (hdg : decode cc pc = .ok (.iastore, 1)) (kk : ∀ (H1 : Heap) (locs1 : List Loc), In (KL A G) s H0 H1 locs1 (ua S.1 70 z v, S.2) → W p l e R s m args below meth c H1 locs1 cells slots Q (F0 m (pc + 1) ls rest)) : W p l e R s m args below meth c H locs cells slots Q (F0 m pc ls (.int (iI v) :: .int (iI z) :: .ref (G.2.2 57) :: rest)) := astI X I (f := S.1) (k := 70) (S1 := (ua S.1 70 z v, S.2)) _ 1 (atL_lt_a) rfl h0 (by decide) sL_lt_a hdg kk
theorem atL_lx_a : (wL G S)[58]? = some (G.2.2 58, .inl (G.2.1 2, 8, .inr (.inl (fun i : Nat => lI (S.1 71 i))))) := rfl
theorem aL_lx (X : CallFix p m c cc nL s args TB own) (I : In (KL A G) s H0 H locs S) {z v : Int} (hv : S.1 71 z = v) (h0 : 0 ≤ z ∧ z < 8) (hdg : decode cc pc = .ok (.laload, 1)) (kk : W p l e R s m args below meth c H locs cells slots Q (F0 m (pc + 1) ls (.long (lI v) :: rest))) : W p l e R s m args below meth c H locs cells slots Q (F0 m pc ls (.int (iI z) :: .ref (G.2.2 58) :: rest)) := by
  subst hv
  exact aldL X I _ 2 (atL_lx_a) rfl h0 (by decide) hdg kk
theorem sL_lx_a {z v : Int} : (wL G S).set 58 (G.2.2 58, .inl (G.2.1 2, 8, .inr (.inl (fun i : Nat => lI (ua S.1 71 z v 71 i))))) = wL G (ua S.1 71 z v, S.2) := rfl
theorem qL_lx (X : CallFix p m c cc nL s args TB own) (I : In (KL A G) s H0 H locs S) {z v : Int} (h0 : 0 ≤ z ∧ z < 8) (hdg : decode cc pc = .ok (.lastore, 1)) (kk : ∀ (H1 : Heap) (locs1 : List Loc), In (KL A G) s H0 H1 locs1 (ua S.1 71 z v, S.2) → W p l e R s m args below meth c H1 locs1 cells slots Q (F0 m (pc + 1) ls rest)) : W p l e R s m args below meth c H locs cells slots Q (F0 m pc ls (.long (lI v) :: .int (iI z) :: .ref (G.2.2 58) :: rest)) := astL X I (f := S.1) (k := 71) (S1 := (ua S.1 71 z v, S.2)) _ 2 (atL_lx_a) rfl h0 (by decide) sL_lx_a hdg kk
theorem atL_lw_a : (wL G S)[59]? = some (G.2.2 59, .inl (G.2.1 1, 8, .inl (fun i : Nat => iI (S.1 72 i)))) := rfl
theorem aL_lw (X : CallFix p m c cc nL s args TB own) (I : In (KL A G) s H0 H locs S) {z v : Int} (hv : S.1 72 z = v) (h0 : 0 ≤ z ∧ z < 8) (hdg : decode cc pc = .ok (.iaload, 1)) (kk : W p l e R s m args below meth c H locs cells slots Q (F0 m (pc + 1) ls (.int (iI v) :: rest))) : W p l e R s m args below meth c H locs cells slots Q (F0 m pc ls (.int (iI z) :: .ref (G.2.2 59) :: rest)) := by
  subst hv
  exact aldI X I _ 1 (atL_lw_a) rfl h0 (by decide) hdg kk
theorem sL_lw_a {z v : Int} : (wL G S).set 59 (G.2.2 59, .inl (G.2.1 1, 8, .inl (fun i : Nat => iI (ua S.1 72 z v 72 i)))) = wL G (ua S.1 72 z v, S.2) := rfl
theorem qL_lw (X : CallFix p m c cc nL s args TB own) (I : In (KL A G) s H0 H locs S) {z v : Int} (h0 : 0 ≤ z ∧ z < 8) (hdg : decode cc pc = .ok (.iastore, 1)) (kk : ∀ (H1 : Heap) (locs1 : List Loc), In (KL A G) s H0 H1 locs1 (ua S.1 72 z v, S.2) → W p l e R s m args below meth c H1 locs1 cells slots Q (F0 m (pc + 1) ls rest)) : W p l e R s m args below meth c H locs cells slots Q (F0 m pc ls (.int (iI v) :: .int (iI z) :: .ref (G.2.2 59) :: rest)) := astI X I (f := S.1) (k := 72) (S1 := (ua S.1 72 z v, S.2)) _ 1 (atL_lw_a) rfl h0 (by decide) sL_lw_a hdg kk
theorem atL_lhad_a : (wL G S)[60]? = some (G.2.2 60, .inl (G.2.1 1, 24, .inl (fun i : Nat => iI (S.1 73 i)))) := rfl
theorem aL_lhad (X : CallFix p m c cc nL s args TB own) (I : In (KL A G) s H0 H locs S) {z v : Int} (hv : S.1 73 z = v) (h0 : 0 ≤ z ∧ z < 24) (hdg : decode cc pc = .ok (.iaload, 1)) (kk : W p l e R s m args below meth c H locs cells slots Q (F0 m (pc + 1) ls (.int (iI v) :: rest))) : W p l e R s m args below meth c H locs cells slots Q (F0 m pc ls (.int (iI z) :: .ref (G.2.2 60) :: rest)) := by
  subst hv
  exact aldI X I _ 1 (atL_lhad_a) rfl h0 (by decide) hdg kk
theorem sL_lhad_a {z v : Int} : (wL G S).set 60 (G.2.2 60, .inl (G.2.1 1, 24, .inl (fun i : Nat => iI (ua S.1 73 z v 73 i)))) = wL G (ua S.1 73 z v, S.2) := rfl
theorem qL_lhad (X : CallFix p m c cc nL s args TB own) (I : In (KL A G) s H0 H locs S) {z v : Int} (h0 : 0 ≤ z ∧ z < 24) (hdg : decode cc pc = .ok (.iastore, 1)) (kk : ∀ (H1 : Heap) (locs1 : List Loc), In (KL A G) s H0 H1 locs1 (ua S.1 73 z v, S.2) → W p l e R s m args below meth c H1 locs1 cells slots Q (F0 m (pc + 1) ls rest)) : W p l e R s m args below meth c H locs cells slots Q (F0 m pc ls (.int (iI v) :: .int (iI z) :: .ref (G.2.2 60) :: rest)) := astI X I (f := S.1) (k := 73) (S1 := (ua S.1 73 z v, S.2)) _ 1 (atL_lhad_a) rfl h0 (by decide) sL_lhad_a hdg kk
variable {b : Nat} {As st : List Value} {aa : Array Value}
/-- a call of the class's method, from the law's world -/
theorem PreV.ofL (I : In (KL A G) s H0 H locs S) : PreV s H "NameSeeker" (G.2.2 0) (va_Pc (.ref (G.2.2 0) :: As) (WC (KC G) S)) As := ⟨WC.blind, va_recv (q := (RX9, TX9, 14)) I.1 I.2.1 rfl (atL_ns (G := G) (S := S)), fun U hU hW => ⟨rfl, va_K.moved hW.alike I.1, by rw [hU]; exact va_P.left I.2.1, frCl_in (va_D.left I.2.2.1), Nst.warm hW I.2.2.2.2⟩⟩
theorem In.clx {S1 : St} {H1 : Heap} {locs1 : List Loc} (I : In (KL A G) s H0 H locs S) {t : State} (ht : t.heap = H1) (hB : WC (KC G) S1 t) (hk : ∀ q : Nat, q < H.size → ¬ frC G q → H1[q]? = H[q]?) (hS : va_S A H0 H1 locs1) (hf : ∀ (c_ : Nat) (i : Int), 70 ≤ c_ → S1.1 c_ i = S.1 c_ i) : In (KL A G) s H0 H1 locs1 S1 := by
  have I1 : va_P G.1 vwCl (wC G S ++ wT G S) H := I.2.1
  have I2 : va_D A (wC G S ++ wT G S) := I.2.2.1
  refine ⟨I.1, ?_, va_D.same (w1 := wL G S) (by rw [wL_map, wL_map]) I.2.2.1, hS, I.2.2.2.2⟩
  show va_P G.1 vwCl (wC G S1 ++ wT G S1) H1
  refine va_P.app (by rw [← ht]; exact hB.2.1) ?_
  rw [wT_same hf]
  refine (va_P.right I1).kept (fun k x hx => hk x.1 ((va_P.right I1 k x hx).lt) (fun h => ?_))
  obtain ⟨i, hi, he⟩ := h
  have h1 : ((wC G S).map Prod.fst)[i]? = some (G.2.2 i) := by rw [wCl_map, List.getElem?_map, List.getElem?_range hi]; rfl
  rw [List.getElem?_map] at h1
  obtain ⟨y, y1, y2⟩ := Option.map_eq_some_iff.mp h1
  exact va_D.two I2 y1 hx (by rw [y2, he])
theorem clx_i {post : Int → St → Prop} (I : In (KL A G) s H0 H locs S) (hr : va_Run p l e R s m args below meth c H locs cells slots 0 0 (F0 m pc ls st) rest (QI (KC G) post aa) (frC G)) (hf : ∀ (z : Int) (S1 : St), post z S1 → ∀ (c_ : Nat) (i : Int), 70 ≤ c_ → S1.1 c_ i = S.1 c_ i) (kk : ∀ (z : Int) (S1 : St) (H1 : Heap) (locs1 : List Loc), post z S1 → In (KL A G) s H0 H1 locs1 S1 → W p l e R s m args below meth c H1 locs1 cells slots Q (F0 m (pc + 3) ls (.int (iI z) :: rest))) : W p l e R s m args below meth c H locs cells slots Q (F0 m pc ls st) :=
  va_calli hr I.2.2.2.1 (fun q _ h => frCl_of (va_D.left I.2.2.1) q h) (fun q h => frCl_of (va_D.left I.2.2.1) q h) (fun r u t H1 locs1 ht _ hp hB _ hk hS => by
    obtain ⟨z, rfl, hq⟩ := hp
    exact kk z u H1 locs1 hq (I.clx ht hB hk hS (hf z u hq)))
end SDL
/-! more of bits: taken to the right, what is left of a division -/
def shr (a k : Int) : Int := ((a.toNat / 2 ^ k.toNat : Nat) : Int)
theorem shr_r {a k : Int} (ha : 0 ≤ a ∧ a < 2147483648) : 0 ≤ shr a k ∧ shr a k < 2147483648 := by
  unfold shr
  have := Nat.div_le_self a.toNat (2 ^ k.toNat)
  generalize a.toNat / 2 ^ k.toNat = z at *
  omega
theorem iI_shr {a k : Int} (ha : 0 ≤ a ∧ a < 2147483648) (hk : 0 ≤ k ∧ k < 32) : iI a >>> (iI k &&& 31) = iI (shr a k) := by
  rw [iI_n ha.1, iI_n hk.1, pk_shrN (by omega) _ k.toNat (zz_sl _ (by omega))]
  unfold shr
  rw [iI_nat]
theorem pf_lI {a : Nat} (h : a < 2 ^ 63) : (lN a).toInt = (a : Int) := lg_ofNat_toInt h
theorem pf_shr {a d : Nat} {D : Int64} (hD : (D.toBitVec.smod 64).toNat = d) (h : a < 2 ^ 62) : lN a >>> D = lN (a / 2 ^ d) := by
  have hd : a / 2 ^ d ≤ a := Nat.div_le_self _ _
  apply Int64.toInt_inj.mp
  have e : (lN a >>> D).toInt = (lN a).toInt >>> d := by
    rw [← hD]
    exact BitVec.toInt_sshiftRight ..
  rw [e, Int.shiftRight_eq_div_pow, pf_lI (by omega), pf_lI (by omega)]
  rfl
theorem zz_sl64 : ∀ n, n < 64 → (((nI n).toInt64 &&& 63).toBitVec.smod 64).toNat = n := by decide +kernel
theorem lI_shr {a k : Int} (ha : 0 ≤ a ∧ a < 4611686018427387904) (hk : 0 ≤ k ∧ k < 64) : lI a >>> ((iI k).toInt64 &&& 63) = lI (shr a k) := by
  obtain ⟨n, rfl⟩ : ∃ n : Nat, a = n := ⟨a.toNat, by omega⟩
  rw [lI_nat, iI_n hk.1, pf_shr (zz_sl64 _ (by omega)) (by omega)]
  unfold shr
  rw [lI_nat]; rfl
theorem band_m (a : Int) (k : Nat) (ha : 0 ≤ a) : band a ((2 ^ k - 1 : Nat) : Int) = a % ((2 ^ k : Nat) : Int) := by
  obtain ⟨n, rfl⟩ : ∃ n : Nat, a = n := ⟨a.toNat, by omega⟩
  unfold band
  rw [Int.toNat_natCast, Int.toNat_natCast, Nat.and_two_pow_sub_one_eq_mod, Int.natCast_emod]
theorem band7 {a : Int} (ha : 0 ≤ a) : band a 7 = a % 8 := band_m a 3 ha
theorem band1 {a : Int} (ha : 0 ≤ a) : band a 1 = a % 2 := band_m a 1 ha
theorem lI_mask (w : Int64) : ∃ z : Int, (0 ≤ z ∧ z < 68719476736) ∧ w &&& lI 68719476735 = lI z := by
  refine ⟨((w &&& lI 68719476735).toBitVec.toNat : Int), ⟨by omega, ?_⟩, ?_⟩
  · have h : (w &&& lI 68719476735).toBitVec.toNat ≤ (lI 68719476735).toBitVec.toNat := by
      show (w.toBitVec &&& (lI 68719476735).toBitVec).toNat ≤ _
      rw [BitVec.toNat_and]; exact Nat.and_le_right
    have h2 : (lI 68719476735).toBitVec.toNat = 68719476735 := by decide
    omega
  · rw [lI_nat]
    apply Int64.toBitVec_inj.1
    show _ = BitVec.ofNat 64 _
    rw [BitVec.ofNat_toNat]; simp
theorem iI_mask (x : Int32) : ∃ z : Int, (0 ≤ z ∧ z < 2147483648) ∧ x &&& iI 2147483647 = iI z := by
  obtain ⟨j, hj, e⟩ := pk_andE x (m := iI 2147483647) 31 (by decide)
  exact ⟨(j : Int), by omega, by rw [e, iI_nat]⟩
section BROWS2
variable {p : Program} {l : Launch} {e : Env} {R : Room} {s : State} {m : MethodId} {args : Array Value} {below : List Frame} {meth : Method} {c : Code} {H : Heap} {locs : List Loc} {cells slots : Nat} {Q : State → Prop}
variable {cc : ByteArray} {pc nL : Nat} {ls : Array Slot} {rest : List Value} {own : String}
theorem ri_shr (X : CallFix p m c cc nL s args TB own) {a b : Int} (ha : 0 ≤ a ∧ a < 2147483648) (hb : 0 ≤ b ∧ b < 32) (hdg : decode cc pc = .ok (.ishr, 1)) (k : W p l e R s m args below meth c H locs cells slots Q (F0 m (pc + 1) ls (.int (iI (shr a b)) :: rest))) : W p l e R s m args below meth c H locs cells slots Q (F0 m pc ls (.int (iI b) :: .int (iI a) :: rest)) := by
  refine lv_ishr X.1 X.2.1 hdg ?_
  rw [iI_shr ha hb]; exact k
theorem rl_shr (X : CallFix p m c cc nL s args TB own) {a b : Int} (ha : 0 ≤ a ∧ a < 4611686018427387904) (hb : 0 ≤ b ∧ b < 64) (hdg : decode cc pc = .ok (.lshr, 1)) (k : W p l e R s m args below meth c H locs cells slots Q (F0 m (pc + 1) ls (.long (lI (shr a b)) :: rest))) : W p l e R s m args below meth c H locs cells slots Q (F0 m pc ls (.int (iI b) :: .long (lI a) :: rest)) :=
  lv_lshr X.1 X.2.1 hdg (lI_shr ha hb) k
theorem ri_and7 (X : CallFix p m c cc nL s args TB own) {a : Int} (ha : 0 ≤ a) (hdg : decode cc pc = .ok (.iand, 1)) (k : W p l e R s m args below meth c H locs cells slots Q (F0 m (pc + 1) ls (.int (iI (a % 8)) :: rest))) : W p l e R s m args below meth c H locs cells slots Q (F0 m pc ls (.int (iI 7) :: .int (iI a) :: rest)) := by
  refine ri_and X ha (by decide) hdg ?_
  rw [band7 ha]; exact k
theorem ri_and1 (X : CallFix p m c cc nL s args TB own) {a : Int} (ha : 0 ≤ a) (hdg : decode cc pc = .ok (.iand, 1)) (k : W p l e R s m args below meth c H locs cells slots Q (F0 m (pc + 1) ls (.int (iI (a % 2)) :: rest))) : W p l e R s m args below meth c H locs cells slots Q (F0 m pc ls (.int (iI 1) :: .int (iI a) :: rest)) := by
  refine ri_and X ha (by decide) hdg ?_
  rw [band1 ha]; exact k
theorem rl_mask (X : CallFix p m c cc nL s args TB own) {w : Int64} (hdg : decode cc pc = .ok (.land, 1)) (k : ∀ z : Int, (0 ≤ z ∧ z < 68719476736) → W p l e R s m args below meth c H locs cells slots Q (F0 m (pc + 1) ls (.long (lI z) :: rest))) : W p l e R s m args below meth c H locs cells slots Q (F0 m pc ls (.long (lI 68719476735) :: .long w :: rest)) := by
  refine lv_land X.1 X.2.1 hdg ?_
  obtain ⟨z, hz, e⟩ := lI_mask w
  rw [e]; exact k z hz
end BROWS2

