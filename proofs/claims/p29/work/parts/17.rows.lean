def upN (f : Nat → Nat) (k v : Nat) : Nat → Nat := fun i => if i = k then v else f i
abbrev QR (K : Sd) (post : Nat → St → Prop) : Array Value → State → Outcome → State → Prop := va_Qr (fun _ : St => True) (fun S1 a t => post a S1 ∧ WC K S1 t) K.2.2.2
def Kr (K : Sd) (l : Launch) (y : MethodName) (cc : ByteArray) (n : Nat) (ret : FieldType) (rm : Room) (av : List Value) (S : St) (post : Nat → St → Prop) : Prop := Met l y (.code y cc n (some ret) :: TB) rm (va_Pc av (WC K S)) (QR K post) 0 0 K.2.2.2
section RROWS
variable {p : Program} {l : Launch} {e : Env} {R : Room} {s : State} {m : MethodId} {args : Array Value} {below : List Frame} {meth : Method} {c : Code} {H : Heap} {locs : List Loc} {cells slots : Nat} {Q : State → Prop}
variable {cc : ByteArray} {pc nL : Nat} {ls : Array Slot} {rest : List Value} {own : String} {K : Sd} {S : St} {H0 : Heap} {a : Nat} {st : List Value} {G : Ge}
theorem rt_r {post : Nat → St → Prop} {v : Nat} {n : String} (X : CallFix p m c cc nL s args TB own) (hr : meth.sig.returnType = some (.object n)) (hlk : meth.locks = false) (I : In K s s.heap H locs S) (hq : post v S) (hdg : decode cc pc = .ok (.areturn, 1)) : W p l e R s m args below meth c H locs cells slots (MQ below (QR K post) args s cells slots K.2.2.2) (F0 m pc ls [.ref v]) :=
  W.aret (v := .ref v) X.1 X.2.1 hr (Or.inl ⟨n, rfl⟩) (Or.inr ⟨v, rfl⟩) (fun t ht hW => ⟨⟨S, v, rfl, trivial, hq, I.wc ht hW⟩, I.2.2.2.1.F ht⟩) I.2.2.2.1.2.2 hdg hlk
theorem cl_r {post : Nat → St → Prop} {aa : Array Value} (I : In K s H0 H locs S) (hr : va_Run p l e R s m args below meth c H locs cells slots 0 0 (F0 m pc ls st) rest (QR K post aa) K.2.2.2) (kk : ∀ (z : Nat) (S1 : St) (H1 : Heap) (locs1 : List Loc), post z S1 → In K s H0 H1 locs1 S1 → W p l e R s m args below meth c H1 locs1 cells slots Q (F0 m (pc + 3) ls (.ref z :: rest))) : W p l e R s m args below meth c H locs cells slots Q (F0 m pc ls st) :=
  va_callr hr I.2.2.2.1 (fun _ _ h => h) (fun _ h => h) (fun u ra t H1 locs1 ht _ _ hB _ _ hS => kk ra u H1 locs1 hB.1 (I.call hB.2 ht hS))
theorem ri_min (X : CallFix p m c cc nL s args TB own) (hl : ls.size = nL) {index : Nat} {x y v : Int} (hv : (if y < x then y else x) = v) (hx : -2147483648 ≤ x ∧ x < 2147483648) (hy : -2147483648 ≤ y ∧ y < 2147483648) (h1 : Cond.methodLink own index Lib.Math.min.name ∈ TB) (h2 : Cond.static Lib.Math.min.name ∈ TB) (h3 : Cond.initialized "java/lang/Math" ∈ TB) (h4 : Cond.code Lib.Math.min.name Lib.Math.min.code 2 (some .int) ∈ TB)
    (hfr : 1 ≤ R.frames) (hlo : (rest.map fun v => v.category).sum + 13 ≤ R.locals) (hc : cells ≤ R.cells) (hs : slots ≤ R.slots) (hdg : decode cc pc = .ok (.invokestatic index, 3)) (k : W p l e R s m args below meth c H locs cells slots Q (F0 m (pc + 3) ls (.int (iI v) :: rest))) : W p l e R s m args below meth c H locs cells slots Q (F0 m pc ls (.int (iI y) :: .int (iI x) :: rest)) := by
  refine va_mmin X.1 X.2.1 (X.2.2.1.trans hl.symm) X.2.2.2.1 (X.2.2.2.2 _ h1) (X.2.2.2.2 _ h2) (X.2.2.2.2 _ h3) (X.2.2.2.2 _ h4) hfr hlo hc hs hdg ?_
  have e : (if iI y < iI x then iI y else iI x) = iI v := by
    rw [← hv]
    by_cases h : y < x
    · rw [if_pos h, if_pos ((iI_lt hy hx).mpr h)]
    · rw [if_neg h, if_neg (fun q => h ((iI_lt hy hx).mp q))]
  rw [e]; exact k
theorem sC_names_a {k v : Nat} : (wC G S).set 4 (G.2.2 4, .inl (G.2.1 3, 8, .inr (.inr (.inr (.inr (va_up (fun i : Nat => some (G.2.2 (41 + 2 * S.2 i))) k (some (G.2.2 (41 + 2 * v)))))))) ) = wC G (S.1, upN S.2 k v) := by
  have e : va_up (fun i : Nat => some (G.2.2 (41 + 2 * S.2 i))) k (some (G.2.2 (41 + 2 * v))) = fun i : Nat => some (G.2.2 (41 + 2 * upN S.2 k v i)) := by
    funext i
    unfold va_up upN
    by_cases h : i = k
    · rw [if_pos h, if_pos h]
    · rw [if_neg h, if_neg h]
  rw [e]; rfl
theorem qC_names (X : CallFix p m c cc nL s args TB own) (I : In (KC G) s H0 H locs S) {z : Int} {j : Nat} (hj : j < 8) (h0 : 0 ≤ z ∧ z < 8) (hdg : decode cc pc = .ok (.aastore, 1)) (kk : ∀ (H1 : Heap) (locs1 : List Loc), In (KC G) s H0 H1 locs1 (S.1, upN S.2 z.toNat j) → W p l e R s m args below meth c H1 locs1 cells slots Q (F0 m (pc + 1) ls rest)) : W p l e R s m args below meth c H locs cells slots Q (F0 m pc ls (.ref (G.2.2 (41 + 2 * j)) :: .int (iI z) :: .ref (G.2.2 4) :: rest)) := by
  refine va_astq X.1 X.2.1 I.1 I.2.1 I.2.2.1 I.2.2.2.1 4 3 (41 + 2 * j) 4 (r := (RX4, TX4, 7)) atC_names_a rfl (atC_name hj) rfl (iI_in h0.1 h0.2 (by decide)) hdg (fun H1 locs1 hP hD hS => ?_)
  have e := iI_cl h0.1 (show z < 2147483648 by omega)
  rw [show (iI z).toNatClampNeg = z.toNat by omega] at hP hD
  exact kk H1 locs1 ⟨I.1, by show va_P _ _ (wC G (S.1, upN S.2 z.toNat j)) H1; rw [← sC_names_a]; exact hP, by show va_D _ (wC G (S.1, upN S.2 z.toNat j)); rw [← sC_names_a]; exact hD, hS, I.2.2.2.2⟩
end RROWS
set_option maxRecDepth 100000 in
theorem tb_28 : Cond.initialized "java/lang/Math" ∈ TB := tbI 28 rfl rfl
set_option maxRecDepth 100000 in
theorem tb_633 : Cond.methodLink "NameSeeker$Asked" 19 Lib.Math.min.name ∈ TB := tbI 633 rfl rfl
set_option maxRecDepth 100000 in
theorem tb_634 : Cond.static Lib.Math.min.name ∈ TB := tbI 634 rfl rfl
set_option maxRecDepth 100000 in
theorem tb_635 : Cond.code Lib.Math.min.name Lib.Math.min.code 2 (some .int) ∈ TB := tbI 635 (by decide +kernel) rfl
