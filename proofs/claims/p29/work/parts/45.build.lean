/-! building a world: the arrays' classes are known ahead; a constructor's contract; the rows of a constructor -/
abbrev tyD (cI : Nat → ClassId) : List (ClassId × FieldType) := [(cI 0, .char), (cI 1, .int), (cI 2, .long), (cI 3, .object "NameSeeker$Name"), (cI 4, .object "NameSeeker$Word"), (cI 5, .array .int)]
def AOA (U : State) : Prop := (Cond.arrayOver (.array .int)).before #[] U = true
theorem AOA.moved {u U : State} (h : u.vm.Alike U.vm) (q : AOA u) : AOA U := Jvm.Stand.arrayOver_alikeB h q
theorem AOA.use {A : Array Value} {U : State} (q : AOA U) : (Cond.arrayOver (.array .int)).before A U = true := q
def Ev (D : va_G) (cI : Nat → ClassId) (U : State) : Prop := va_K D vwCl (tyD cI) U ∧ Nst U ∧ va_AO "NameSeeker$Name" U ∧ va_AO "NameSeeker$Word" U ∧ AOA U
theorem Ev.warm {D : va_G} {cI : Nat → ClassId} {s U : State} (h : s.WarmedH U.vm) (q : Ev D cI s) : Ev D cI U := ⟨va_K.moved h.alike q.1, Nst.warm h q.2.1, va_AO.moved h.alike q.2.2.1, va_AO.moved h.alike q.2.2.2.1, AOA.moved h.alike q.2.2.2.2⟩
theorem Ev.calls {D : va_G} {cI : Nat → ClassId} {U : State} {g : JFrame} {mk : MethodId} {a : Array Value} (q : Ev D cI U) : Ev D cI (U.calling g mk a) := ⟨va_K.moved (u := U) (U := U.calling g mk a) (Vm.Alike.refl U.vm) q.1, Nst.same (s := U) (U := U.calling g mk a) rfl q.2.1, va_AO.moved (u := U) (U := U.calling g mk a) (Vm.Alike.refl U.vm) q.2.2.1, va_AO.moved (u := U) (U := U.calling g mk a) (Vm.Alike.refl U.vm) q.2.2.2.1, AOA.moved (u := U) (U := U.calling g mk a) (Vm.Alike.refl U.vm) q.2.2.2.2⟩
theorem va_RA_inj {U : State} {a b : ClassId} {ty : FieldType} (h1 : va_RA U a ty) (h2 : va_RA U b ty) : a = b := by
  cases ty with
  | object C =>
    obtain ⟨-, -, -, -, -, h3⟩ := h1
    obtain ⟨-, -, -, -, -, h4⟩ := h2
    exact Option.some.inj (h3.symm.trans h4)
  | _ => exact Option.some.inj (Eq.trans (Eq.symm h1) h2)
/-- the state of a constructor's walk -/
def Bd (D : va_G) (cI : Nat → ClassId) (A : Nat → Prop) (s : State) (H0 H : Heap) (locs : List Loc) (ws : va_W) : Prop := Ev D cI s ∧ va_P D vwCl ws H ∧ va_D A ws ∧ va_S A H0 H locs ∧ ∀ q : Nat, H0.size ≤ q → A q
abbrev QK (D : va_G) (W : (Nat → Nat) → va_W) (A : Nat → Prop) : Array Value → State → Outcome → State → Prop := va_Qv (fun _ : Nat → Nat => True) (fun u t => va_P D vwCl (W u) t.heap ∧ va_D A (W u)) A
def Kn (D : va_G) (cI : Nat → ClassId) (l : Launch) (y : MethodName) (cc : ByteArray) (n : Nat) (rm : Room) (h0 : Nat) (e0 : va_E) (W : (Nat → Nat) → va_W) (sz : Nat) : Prop := Met l y (.code y cc n none :: TB) rm (va_Pc [.ref h0] (fun U => U.heap.size = sz ∧ Ev D cI U ∧ va_P D vwCl [(h0, e0)] U.heap)) (QK D W (va_A [(h0, e0)] sz)) rm.cells rm.slots (va_A [(h0, e0)] sz)
theorem Kn_start {D : va_G} {cI : Nat → ClassId} {l : Launch} {y : MethodName} {cc : ByteArray} {n : Nat} {rm : Room} {h0 : Nat} {e0 : va_E} {W0 : (Nat → Nat) → va_W} {sz : Nat} {own : String} (hy : plainName y.cls = true) (hc : y.cls = own) (hi : y.name = "<init>") (hn : (lg_sl [Value.ref h0]).length ≤ n)
    (body : ∀ (p : Program) (e : Env) (s : State) (m : MethodId) (args : Array Value) (below : List Frame) (meth : Method) (c : Code) (A : Nat → Prop), CallFix p m c cc n s args TB own → meth.sig.returnType = none → meth.locks = false → meth.name = "<init>" → Bd D cI A s s.heap s.heap [] [(h0, e0)] → ∀ ls : Array Slot, lv_has ls n [(0, .ref h0)] →
      W p l e rm s m args below meth c s.heap [] 0 0 (MQ below (QK D W0 A) args s rm.cells rm.slots A) (F0 m 0 ls [])) : Kn D cI l y cc n rm h0 e0 W0 sz := by
  refine Met.ofW (cc := cc) (maxL := n) (ret := none) hy rfl ?_
  intro p e s m args below meth c s₁ B hml hv
  obtain ⟨rfl, rfl, hE, hP⟩ := hv
  have hts := atoms_spec (ws := .code y cc n none :: TB) B.pre
  have hown : s.vm.findClass y.cls = some m.cls := findClass_of_methodNamed B.named
  rw [hc] at hown
  rw [lg_entry_eq]
  have hin : meth.name = "<init>" := by rw [← hi]; exact (name_of_methodNamed B.named B.method).1
  have hD : va_D (va_A [(h0, e0)] s.heap.size) [(h0, e0)] := ⟨fun i j x z hx hz _ => by
    have h1 : i < 1 := (List.getElem?_eq_some_iff.mp hx).1
    have h2 : j < 1 := (List.getElem?_eq_some_iff.mp hz).1
    omega, fun k q hk => va_A.in hk⟩
  exact body p e s m _ below meth c _ ⟨B.exec, B.bytes, hml, hown, fun w h => hts w (List.mem_cons_of_mem _ h)⟩ B.returns B.notSynchronized hin ⟨hE, hP, hD, va_S.rf, fun q h => Or.inr h⟩ _ (lv_entry [Value.ref h0] hn)
section BROW
variable {p : Program} {l : Launch} {e : Env} {R : Room} {s : State} {m : MethodId} {args : Array Value} {below : List Frame} {meth : Method} {c : Code} {H : Heap} {locs : List Loc} {cells slots : Nat} {Q : State → Prop}
variable {cc : ByteArray} {pc nL : Nat} {ls : Array Slot} {rest : List Value} {own : String} {D : va_G} {cI : Nat → ClassId} {A : Nat → Prop} {H0 : Heap} {ws : va_W} {a : Nat}
theorem b_new (X : CallFix p m c cc nL s args TB own) (B : Bd D cI A s H0 H locs ws) {C : String} {T : u_T} {N index : Nat} (ci : Nat) (fs : List Value) (hc : vwCl[ci]? = some (C, T, N)) (hin : ∀ w ∈ u_ws C T N, w ∈ TB) (ty : Nat → FieldType) (hty : ∀ k, k < N → parseFieldDescriptor (T k).2.2.1 = some (ty k)) (hcl : Cond.classLink own index C ∈ TB) (hinst : Cond.instantiable C N ∈ TB) (hini : Cond.initialized C ∈ TB) (hfs : ∀ j, j < N → defaultValue (ty j) = vp_V fs j) (hcells : cells + 1 ≤ R.cells) (hslots : slots + N ≤ R.slots) (hdg : decode cc pc = .ok (.new index, 3))
    (kk : ∀ (q : Nat) (H1 : Heap), Bd D cI A s H0 H1 locs (ws ++ [(q, .inr (ci, fs))]) → W p l e R s m args below meth c H1 locs (cells + 1) (slots + N) Q (F0 m (pc + 3) ls (.ref q :: rest))) : W p l e R s m args below meth c H locs cells slots Q (F0 m pc ls rest) :=
  va_new X.1 X.2.1 X.2.2.2.2 hin ty hty X.2.2.2.1 (X.2.2.2.2 _ hcl) (X.2.2.2.2 _ hinst) (X.2.2.2.2 _ hini) B.1.1 B.2.1 B.2.2.1 B.2.2.2.1 B.2.2.2.2 hc hfs hcells hslots hdg (fun q H1 hP hD hS => kk q H1 ⟨B.1, hP, hD, hS, B.2.2.2.2⟩)
theorem b_newa (X : CallFix p m c cc nL s args TB own) (B : Bd D cI A s H0 H locs ws) {atype : ArrayType} (t0 : Nat) {ty : FieldType} {cA0 : ClassId} (hty : newarray.typeOf atype = ty) (ht : (tyD cI)[t0]? = some (cA0, ty)) (harr : Cond.arrayClass (newarray.typeOf atype) ∈ TB) {v : Int} {N' : Nat} (a0 : vp_A) (ha : ∀ cA : ClassId, vp_cell cA a0 = arrV cA N' (fun _ => defaultValue ty)) (hn : ¬ iI v < 0) (hN : (iI v).toNatClampNeg = N') (hbytes : N' * componentBytes ty ≤ 536870912) (hcells : cells + 1 ≤ R.cells) (hslots : slots + N' ≤ R.slots) (hdg : decode cc pc = .ok (.newarray atype, 2))
    (kk : ∀ (q : Nat) (H1 : Heap), Bd D cI A s H0 H1 locs (ws ++ [(q, .inl (cA0, a0))]) → W p l e R s m args below meth c H1 locs (cells + 1) (slots + N') Q (F0 m (pc + 2) ls (.ref q :: rest))) : W p l e R s m args below meth c H locs cells slots Q (F0 m pc ls (.int (iI v) :: rest)) :=
  va_newa X.1 X.2.1 (X.2.2.2.2 _ harr) hty B.1.1 B.2.1 B.2.2.1 B.2.2.2.1 B.2.2.2.2 ha hn hN hbytes hcells hslots hdg (fun q cA H1 hK hP hD hS => by
    have e1 := va_RA_inj (hK.2 6 (cA, ty) rfl).2 (B.1.1.2 t0 _ ht).2
    dsimp only at e1
    subst e1
    exact kk q H1 ⟨B.1, hP, hD, hS, B.2.2.2.2⟩)
theorem b_newq (X : CallFix p m c cc nL s args TB own) (B : Bd D cI A s H0 H locs ws) {C : String} {index : Nat} (t0 : Nat) {cA0 : ClassId} (ht : (tyD cI)[t0]? = some (cA0, .object C)) (hclink : Cond.classLink own index C ∈ TB) (hover : va_AO C s) {v : Int} {N' : Nat} (hn : ¬ iI v < 0) (hN : (iI v).toNatClampNeg = N') (hbytes : N' * 4 ≤ 536870912) (hcells : cells + 1 ≤ R.cells) (hslots : slots + N' ≤ R.slots) (hdg : decode cc pc = .ok (.anewarray index, 3))
    (kk : ∀ (q : Nat) (H1 : Heap), Bd D cI A s H0 H1 locs (ws ++ [(q, .inl (cA0, N', .inr (.inr (.inr (.inr (fun _ => none))))))]) → W p l e R s m args below meth c H1 locs (cells + 1) (slots + N') Q (F0 m (pc + 3) ls (.ref q :: rest))) : W p l e R s m args below meth c H locs cells slots Q (F0 m pc ls (.int (iI v) :: rest)) :=
  va_newq X.1 X.2.1 X.2.2.2.1 (X.2.2.2.2 _ hclink) hover B.1.1 B.2.1 B.2.2.1 B.2.2.2.1 B.2.2.2.2 hn hN hbytes hcells hslots hdg (fun q cA H1 hK hP hD hS => by
    have e1 := va_RA_inj (hK.2 6 (cA, .object C) rfl).2 (B.1.1.2 t0 _ ht).2
    dsimp only at e1
    subst e1
    exact kk q H1 ⟨B.1, hP, hD, hS, B.2.2.2.2⟩)
theorem b_mna (X : CallFix p m c cc nL s args TB own) (B : Bd D cI A s H0 H locs ws) {index : Nat} (hclink : Cond.classLink own index ("[" ++ (FieldType.array .int).toString) ∈ TB) (harr : Cond.arrayClass .int ∈ TB) {v w : Int} {N' K' : Nat} (hn : ¬ iI v < 0) (hk : ¬ iI w < 0) (hN : (iI v).toNatClampNeg = N') (hM : (iI w).toNatClampNeg = K') (hb1 : N' * 4 ≤ 536870912) (hb2 : K' * componentBytes .int ≤ 536870912) (hb3 : K' ≤ 536870912) (hcells : cells + (1 + N') ≤ R.cells) (hslots : slots + (N' + N' * K') ≤ R.slots) (hdg : decode cc pc = .ok (.multianewarray index 2, 4))
    (kk : ∀ (q : Nat) (H1 : Heap), Bd D cI A s H0 H1 locs ((ws ++ [(q, .inl (cI 5, N', .inr (.inr (.inr (.inr (fun i => if i < N' then some (q + 1 + i) else none))))))]) ++ mr_w q N' (.inl (cI 1, K', .inl (fun _ => 0)))) → W p l e R s m args below meth c H1 locs (cells + 1 + N') (slots + N' + N' * K') Q (F0 m (pc + 4) ls (.ref q :: rest))) : W p l e R s m args below meth c H locs cells slots Q (F0 m pc ls (.int (iI w) :: .int (iI v) :: rest)) :=
  mr_mna X.1 X.2.1 X.2.2.2.1 (X.2.2.2.2 _ hclink) (AOA.use B.1.2.2.2.2) (X.2.2.2.2 _ harr) B.1.1 B.2.1 B.2.2.1 B.2.2.2.1 B.2.2.2.2 hn hk hN hM hb1 hb2 hb3 hcells hslots hdg (fun q cA cy H1 hK hP hD hS => by
    have e1 := va_RA_inj (hK.2 6 (cA, .array .int) rfl).2 (B.1.1.2 5 _ rfl).2
    have e2 := va_RA_inj (hK.2 7 (cy, .int) rfl).2 (B.1.1.2 1 _ rfl).2
    dsimp only at e1 e2
    subst e1; subst e2
    exact kk q H1 ⟨B.1, hP, hD, hS, B.2.2.2.2⟩)
theorem b_putF (X : CallFix p m c cc nL s args TB own) (hin2 : meth.name = "<init>") (B : Bd D cI A s H0 H locs ws) {C : String} {T : u_T} {N ci index : Nat} {fs : List Value} {v : Value} {ty : FieldType} (ws1 : va_W) (q0 : Nat) (he : ws[q0]? = some (a, .inr (ci, fs))) (hc : vwCl[ci]? = some (C, T, N)) (hin : ∀ w ∈ u_ws C T N, w ∈ TB) (ty0 : Nat → FieldType) (hty : ∀ k, k < N → parseFieldDescriptor (T k).2.2.1 = some (ty0 k)) (hnm : ∀ a, a < N → ∀ b, b < N → a ≠ b → (T a).2.1 ≠ (T b).2.1) (k : Nat) (hk : k < N) (hlink : Cond.fieldLink own index (T k).1 (T k).2.1 (T k).2.2.1 ∈ TB) (hfin : (T k).2.2.2 = true) (hdecl : (T k).1 = own) (hd : parseFieldDescriptor (T k).2.2.1 = some ty) (hn : narrow ty v = v) (hfit : fits ty v = true) (hl : k < fs.length) (hset : ws.set q0 (a, .inr (ci, fs.set k v)) = ws1) (hdg : decode cc pc = .ok (.putfield index, 3))
    (kk : ∀ (H1 : Heap) (locs1 : List Loc), Bd D cI A s H0 H1 locs1 ws1 → W p l e R s m args below meth c H1 locs1 cells slots Q (F0 m (pc + 3) ls rest)) : W p l e R s m args below meth c H locs cells slots Q (F0 m pc ls (v :: .ref a :: rest)) :=
  va_putF (ref := (T k).1) X.1 X.2.1 X.2.2.2.2 hin ty0 hty hnm X.2.2.2.1 B.1.1 B.2.1 B.2.2.1 B.2.2.2.1 q0 he hc k hk (X.2.2.2.2 _ hlink) (fun _ h => h) hfin hin2 hdecl hd hn hfit hl hdg (fun H1 locs1 hP hD hS => kk H1 locs1 ⟨B.1, by rw [← hset]; exact hP, by rw [← hset]; exact hD, hS, B.2.2.2.2⟩)
theorem b_put (X : CallFix p m c cc nL s args TB own) (B : Bd D cI A s H0 H locs ws) {C : String} {T : u_T} {N ci index : Nat} {fs : List Value} {v : Value} {ty : FieldType} (ws1 : va_W) (q0 : Nat) (he : ws[q0]? = some (a, .inr (ci, fs))) (hc : vwCl[ci]? = some (C, T, N)) (hin : ∀ w ∈ u_ws C T N, w ∈ TB) (ty0 : Nat → FieldType) (hty : ∀ k, k < N → parseFieldDescriptor (T k).2.2.1 = some (ty0 k)) (hnm : ∀ a, a < N → ∀ b, b < N → a ≠ b → (T a).2.1 ≠ (T b).2.1) (k : Nat) (hk : k < N) (hlink : Cond.fieldLink own index (T k).1 (T k).2.1 (T k).2.2.1 ∈ TB) (hfin : (T k).2.2.2 = false) (hd : parseFieldDescriptor (T k).2.2.1 = some ty) (hn : narrow ty v = v) (hfit : fits ty v = true) (hl : k < fs.length) (hset : ws.set q0 (a, .inr (ci, fs.set k v)) = ws1) (hdg : decode cc pc = .ok (.putfield index, 3))
    (kk : ∀ (H1 : Heap) (locs1 : List Loc), Bd D cI A s H0 H1 locs1 ws1 → W p l e R s m args below meth c H1 locs1 cells slots Q (F0 m (pc + 3) ls rest)) : W p l e R s m args below meth c H locs cells slots Q (F0 m pc ls (v :: .ref a :: rest)) :=
  va_put (ref := (T k).1) X.1 X.2.1 X.2.2.2.2 hin ty0 hty hnm X.2.2.2.1 B.1.1 B.2.1 B.2.2.1 B.2.2.2.1 q0 he hc k hk (X.2.2.2.2 _ hlink) (fun _ h => h) hfin hd hn hfit hl hdg (fun H1 locs1 hP hD hS => kk H1 locs1 ⟨B.1, by rw [← hset]; exact hP, by rw [← hset]; exact hD, hS, B.2.2.2.2⟩)
theorem b_get (X : CallFix p m c cc nL s args TB own) (B : Bd D cI A s H0 H locs ws) {C : String} {T : u_T} {N ci index : Nat} {fs : List Value} {v : Value} (q0 : Nat) (he : ws[q0]? = some (a, .inr (ci, fs))) (hc : vwCl[ci]? = some (C, T, N)) (hin : ∀ w ∈ u_ws C T N, w ∈ TB) (k : Nat) (hk : k < N) (hlink : Cond.fieldLink own index (T k).1 (T k).2.1 (T k).2.2.1 ∈ TB) (hv : fs[k]? = some v) (hdg : decode cc pc = .ok (.getfield index, 3))
    (kk : W p l e R s m args below meth c H locs cells slots Q (F0 m (pc + 3) ls (v :: rest))) : W p l e R s m args below meth c H locs cells slots Q (F0 m pc ls (.ref a :: rest)) :=
  va_get (ref := (T k).1) X.1 X.2.1 X.2.2.2.2 hin X.2.2.2.1 B.1.1 B.2.1 q0 he hc k hk (X.2.2.2.2 _ hlink) (fun _ h => h) hv hdg kk
theorem b_ast (X : CallFix p m c cc nL s args TB own) (B : Bd D cI A s H0 H locs ws) (ws1 : va_W) (q0 t0 qk ci : Nat) {cA : ClassId} {r : vw_C} {n v : Nat} {vs : List Value} {f : Nat → Option Nat} (ha : ws[q0]? = some (a, .inl (cA, n, .inr (.inr (.inr (.inr f)))))) (ht : (tyD cI)[t0]? = some (cA, .object r.1)) (hv : ws[qk]? = some (v, .inr (ci, vs))) (hc : vwCl[ci]? = some r) {z : Int} {k : Nat} (hz : z = (k : Int)) (hin : k < n) (hn : n < 2147483648) (hset : ws.set q0 (a, .inl (cA, n, .inr (.inr (.inr (.inr (va_up f k (some v))))))) = ws1) (hdg : decode cc pc = .ok (.aastore, 1))
    (kk : ∀ (H1 : Heap) (locs1 : List Loc), Bd D cI A s H0 H1 locs1 ws1 → W p l e R s m args below meth c H1 locs1 cells slots Q (F0 m (pc + 1) ls rest)) : W p l e R s m args below meth c H locs cells slots Q (F0 m pc ls (.ref v :: .int (iI z) :: .ref a :: rest)) := by
  subst hz
  refine va_astq X.1 X.2.1 B.1.1 B.2.1 B.2.2.1 B.2.2.2.1 q0 t0 qk ci ha ht hv hc (iI_in (by omega) (by omega) hn) hdg (fun H1 locs1 hP hD hS => ?_)
  have e : (iI (k : Int)).toNatClampNeg = k := by rw [iI_nat, nI_clamp (by omega)]
  rw [e, hset] at hP hD
  exact kk H1 locs1 ⟨B.1, hP, hD, hS, B.2.2.2.2⟩
theorem b_obj (X : CallFix p m c cc nL s args TB own) {idx : Nat} (hl : ls.size = nL) (h1 : Cond.methodLink own idx Lib.objectInit ∈ TB) (h2 : Cond.instanceMethod Lib.objectInit ∈ TB) (h3 : Cond.code Lib.objectInit ⟨#[0xb1]⟩ 1 none ∈ TB) (hfr : 1 ≤ R.frames) (hlo : (rest.map fun v => v.category).sum + 12 ≤ R.locals) (hdg : decode cc pc = .ok (.invokespecial idx, 3))
    (kk : W p l e R s m args below meth c H locs cells slots Q (F0 m (pc + 3) ls rest)) : W p l e R s m args below meth c H locs cells slots Q (F0 m pc ls (.ref a :: rest)) := by
  refine W.objInit X.1 X.2.1 X.2.2.2.1 (X.2.2.2.2 _ h1) (X.2.2.2.2 _ h2) (X.2.2.2.2 _ h3) rfl (hl.trans X.2.2.1.symm) rfl hdg hfr (by show 2 * 0 + _ + 12 ≤ _; omega) ?_
  refine W.eq (g2 := F0 m (pc + 3) ls rest) rfl ?_
  exact kk
theorem b_ret {W0 : (Nat → Nat) → va_W} (X : CallFix p m c cc nL s args TB own) (hr : meth.sig.returnType = none) (hlk : meth.locks = false) (B : Bd D cI A s s.heap H locs ws) (u : Nat → Nat) (hw : ws = W0 u) (hdg : decode cc pc = .ok (.return_, 1)) : W p l e R s m args below meth c H locs cells slots (MQ below (QK D W0 A) args s cells slots A) (F0 m pc ls []) :=
  W.vret X.1 X.2.1 hr (fun t ht hW => ⟨⟨u, rfl, trivial, by rw [ht, ← hw]; exact B.2.1, by rw [← hw]; exact B.2.2.1⟩, B.2.2.2.1.F ht⟩) B.2.2.2.1.2.2 hdg hlk
/-! a constructor is called -/
variable {wr : va_W} {q : Nat} {e0 : va_E} {Wd : (Nat → Nat) → va_W} {y : MethodName} {bytes : ByteArray} {maxL index : Nat} {rm : Room} {st0 : List Value} {aa : Array Value}
theorem Bd.last (B : Bd D cI A s H0 H locs (wr ++ [(q, e0)])) : va_P D vwCl [(q, e0)] H := fun k x hk => by
  have h1 : k < 1 := (List.getElem?_eq_some_iff.mp hk).1
  have h2 : k = 0 := by omega
  subst h2
  cases hk
  exact B.2.1 wr.length _ (by rw [List.getElem?_append_right (Nat.le_refl _), Nat.sub_self]; rfl)
theorem Bd.free (B : Bd D cI A s H0 H locs (wr ++ [(q, e0)])) : ∀ x : Nat, va_A [(q, e0)] H.size x → A x := fun x h => by
  rcases h with ⟨k, e, h⟩ | h
  · have h1 : k < 1 := (List.getElem?_eq_some_iff.mp h).1
    have h2 : k = 0 := by omega
    subst h2
    cases h
    exact B.2.2.1.2 wr.length (q, e0) (by rw [List.getElem?_append_right (Nat.le_refl _), Nat.sub_self]; rfl)
  · exact B.2.2.2.2 x (Nat.le_trans B.2.2.2.1.1 h)
theorem b_back (B : Bd D cI A s H0 H locs (wr ++ [(q, e0)])) (hr : va_Run p l e R s m args below meth c H locs cells slots rm.cells rm.slots (F0 m pc ls st0) rest (QK D Wd (va_A [(q, e0)] H.size) aa) (va_A [(q, e0)] H.size))
    (kk : ∀ (u : Nat → Nat) (H1 : Heap) (locs1 : List Loc), Bd D cI A s H0 H1 locs1 (wr ++ Wd u) → W p l e R s m args below meth c H1 locs1 (cells + rm.cells) (slots + rm.slots) Q (F0 m (pc + 3) ls rest)) : W p l e R s m args below meth c H locs cells slots Q (F0 m pc ls st0) := by
  refine va_callv hr B.2.2.2.1 (fun x _ h => B.free x h) B.free (fun u t H1 locs1 ht hvm _ hB hz hk hS => ?_)
  obtain ⟨hP1, hD1⟩ := hB
  rw [ht] at hP1
  have apart : ∀ (k : Nat) (x : Nat × va_E), wr[k]? = some x → (wr ++ [(q, e0)])[k]? = some x ∧ x.1 < H.size ∧ ¬ va_A [(q, e0)] H.size x.1 := fun k x hx => by
    have hlt := (List.getElem?_eq_some_iff.mp hx).1
    have h2 : (wr ++ [(q, e0)])[k]? = some x := by rw [List.getElem?_append_left hlt]; exact hx
    have h3 := (B.2.1 k x h2).lt
    refine ⟨h2, h3, fun h => ?_⟩
    rcases h with ⟨k2, e2, h⟩ | h
    · have h5 : k2 < 1 := (List.getElem?_eq_some_iff.mp h).1
      have h6 : k2 = 0 := by omega
      subst h6
      cases h
      have h7 : (wr ++ [(x.1, e0)])[wr.length]? = some (x.1, e0) := by rw [List.getElem?_append_right (Nat.le_refl _), Nat.sub_self]; rfl
      have := B.2.2.1.1 k wr.length x _ h2 h7 rfl
      omega
    · omega
  refine kk u H1 locs1 ⟨B.1, va_P.app (fun k x hx => ?_) hP1, va_D.app ⟨fun i j x z hx hz hxz => ?_, fun k x hx => ?_⟩ (hD1.weaken (fun k x _ h => B.free x.1 h)) (fun i j x z hx hz hxz => ?_), hS, B.2.2.2.2⟩
  · obtain ⟨h1, h2, h3⟩ := apart k x hx
    exact (B.2.1 k x h1).kept (hk x.1 h2 h3)
  · exact B.2.2.1.1 i j x z (apart i x hx).1 (apart j z hz).1 hxz
  · exact B.2.2.1.2 k x (apart k x hx).1
  · exact (apart i x hx).2.2 (by rw [hxz]; exact hD1.2 j z hz)
theorem Bd.pre (B : Bd D cI A s H0 H locs (wr ++ [(q, e0)])) : PreS s H (va_Pc [.ref q] (fun U => U.heap.size = H.size ∧ Ev D cI U ∧ va_P D vwCl [(q, e0)] U.heap)) [.ref q] := ⟨fun a U g mk z => ⟨z.1, z.2.1, z.2.2.1.calls, z.2.2.2⟩, fun U hU hW => ⟨rfl, by rw [hU], B.1.warm hW, by rw [hU]; exact B.last⟩⟩
/-- a nest mate's private one -/
theorem b_cN (X : CallFix p m c cc nL s args TB own) (B : Bd D cI A s H0 H locs (wr ++ [(q, e0)])) (hM : Kn D cI l y bytes maxL rm q e0 Wd H.size) (hcode : Cond.code y bytes maxL none ∈ TB) {host : String} (i : Nat) (hlk : nestL[i]? = some (own, index, y, host)) (hinst : Cond.instanceMethod y ∈ TB) (hini : Cond.initialized y.cls ∈ TB) (hy : y.name = "<init>") (ho : (y.cls ≠ "java/lang/invoke/MethodHandle" ∧ y.cls ≠ "java/lang/invoke/VarHandle" ∧ (parseMethodDescriptor y.desc).map (fun d => d.parameters.length) = some 0) ∧ (rm.frames + 1 ≤ R.frames ∧ 8 + (maxL + 11) + rm.locals ≤ R.locals)) (hl : ls.size = nL) (hW : (rest.map fun v => v.category).sum ≤ 8) (hdg : decode cc pc = .ok (.invokespecial index, 3)) (hf : cells + rm.cells ≤ R.cells ∧ slots + rm.slots ≤ R.slots)
    (kk : ∀ (u : Nat → Nat) (H1 : Heap) (locs1 : List Loc), Bd D cI A s H0 H1 locs1 (wr ++ Wd u) → W p l e R s m args below meth c H1 locs1 (cells + rm.cells) (slots + rm.slots) Q (F0 m (pc + 3) ls rest)) : W p l e R s m args below meth c H locs cells slots Q (F0 m pc ls (.ref q :: rest)) :=
  b_back B (va_runIN (As := []) (rest := rest) X hM ⟨va_cnB 0 X.2.2.2.2 (gdC hcode gdB) rfl rfl rfl (B.1.2.1 _ (List.mem_of_getElem? hlk)) (X.2.2.2.2 _ hini) ho.1 ho.2, hy, X.2.2.2.2 _ hinst⟩ B.pre rfl rfl hl rfl (lv_room hW) hdg hf) kk
theorem b_cI (X : CallFix p m c cc nL s args TB own) (B : Bd D cI A s H0 H locs (wr ++ [(q, e0)])) (hM : Kn D cI l y bytes maxL rm q e0 Wd H.size) (hcode : Cond.code y bytes maxL none ∈ TB) (hlk : Cond.methodLink own index y ∈ TB) (hinst : Cond.instanceMethod y ∈ TB) (hini : Cond.initialized y.cls ∈ TB) (hy : y.name = "<init>") (ho : (y.cls ≠ "java/lang/invoke/MethodHandle" ∧ y.cls ≠ "java/lang/invoke/VarHandle" ∧ (parseMethodDescriptor y.desc).map (fun d => d.parameters.length) = some 0) ∧ (rm.frames + 1 ≤ R.frames ∧ 8 + (maxL + 11) + rm.locals ≤ R.locals)) (hl : ls.size = nL) (hW : (rest.map fun v => v.category).sum ≤ 8) (hdg : decode cc pc = .ok (.invokespecial index, 3)) (hf : cells + rm.cells ≤ R.cells ∧ slots + rm.slots ≤ R.slots)
    (kk : ∀ (u : Nat → Nat) (H1 : Heap) (locs1 : List Loc), Bd D cI A s H0 H1 locs1 (wr ++ Wd u) → W p l e R s m args below meth c H1 locs1 (cells + rm.cells) (slots + rm.slots) Q (F0 m (pc + 3) ls rest)) : W p l e R s m args below meth c H locs cells slots Q (F0 m pc ls (.ref q :: rest)) :=
  b_back B (va_runI (As := []) (rest := rest) X hM (cwI 0 X.2.2.2.2 (gdC hcode gdB) rfl rfl rfl (X.2.2.2.2 _ hini) (X.2.2.2.2 _ hlk) (X.2.2.2.2 _ hinst) hy ho.1 ho.2) B.pre rfl rfl hl rfl (lv_room hW) hdg hf) kk
/-- a row of references, told otherwise -/
theorem b_ref (B : Bd D cI A s H0 H locs ws) (ws1 : va_W) (q0 : Nat) {cA : ClassId} {n : Nat} {f g : Nat → Option Nat} (he : ws[q0]? = some (a, .inl (cA, n, .inr (.inr (.inr (.inr f)))))) (hfg : ∀ i : Nat, i < n → f i = g i) (hset : ws.set q0 (a, .inl (cA, n, .inr (.inr (.inr (.inr g))))) = ws1) : Bd D cI A s H0 H locs ws1 := by
  rw [← hset]
  refine ⟨B.1, B.2.1.set B.2.2.1 he ?_ (fun _ _ => rfl), B.2.2.1.set he, B.2.2.2.1, B.2.2.2.2⟩
  have h := B.2.1 q0 _ he
  show H[a]? = some (vp_cell cA (n, .inr (.inr (.inr (.inr g)))))
  have h2 : H[a]? = some (vp_cell cA (n, .inr (.inr (.inr (.inr f))))) := h
  rw [h2, vp_cell_q, vp_cell_q]
  unfold arrV
  refine congrArg some ?_
  have e1 : (fun j : Fin n => va_rf (f j.val)) = (fun j : Fin n => va_rf (g j.val)) := funext (fun j => by rw [hfg j.val j.isLt])
  exact congrArg (fun k : Fin n → Value => ({ cls := cA, slots := Array.ofFn k, vm := .none } : Cell)) e1
theorem b_sub (B : Bd D cI A s H0 H locs ws) (ws1 : va_W) (is : List Nat) (hn : va_nd is = true) (h1 : is.filterMap (fun i => ws[i]?) = ws1) (h2 : is.map (fun i => ws[i]?) = ws1.map some) : Bd D cI A s H0 H locs ws1 := ⟨B.1, B.2.1.sub is h1, B.2.2.1.sub is hn h2, B.2.2.2.1, B.2.2.2.2⟩
end BROW
