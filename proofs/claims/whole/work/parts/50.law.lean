/-! THE CLAIM OUT OF ONE WALK OF THE LAW'S BODY. Your part is whole_start (and what it stands on); all else here is the same for every law, but numbers. -/
def R_law : String := "NameSeekerLaw"
def lw_P (b : Addr) (xs : List Int32) (args : Array Value) (s : State) : Prop := args = #[.ref b] ∧ s.IntsAt b xs ∧ xs.length ≤ 2048 ∧ (Jvm.Cond.and given_1 narrow_1).before args s = true
def lw_Q (_ : Array Value) (s : State) (o : Outcome) (t : State) : Prop := o = .returned (some (.int 1)) ∧ Framed s o t [] 600000 7302250
def lw_Z (below : List Frame) (a : Array Value) (s : State) : State → Prop := fun t => ∃ o, t.status = .running ∧ Ended t below o ∧ lw_Q a s o t
/-- the law's own end, with 1 on the stack, nothing written that was there before, its room as the claim has it -/
theorem lw_ret {p : Program} {l : Launch} {e : Env} {s : State} {m : MethodId} {below : List Frame} {meth : Method} {c : Code} {b : Nat} (hx : p.tables.exec = Jvm.exec) (hb : c.code = code) (hr : meth.sig.returnType = ret) (hlocks : meth.locks = false) {pc : Nat} {H : Heap} {ls : Array Slot} (hdg : decode code pc = .ok (.ireturn, 1)) : W p l e room_1 s m #[Value.ref b] below meth c H [] 600000 7302250 (lw_Z below #[Value.ref b] s) (F0 m pc ls [.int 1]) := by
  intro T hT X
  obtain ⟨fs, hret, hrun, hended, hW, hframe⟩ := X.leave (v := some (.int 1)) (hlocks := hlocks) (fun h => by rw [hr] at h; cases h)
  have hmeth' : T.vm.method? m = some meth := X.method'
  refine ⟨T.setFrames fs, ?_, .returned (some (.int 1)), hrun, hended, rfl, ⟨_, rfl⟩, hW, hframe⟩
  jvm_step X.here [X.here.top, hx, hb, hdg, hmeth', hr, ret, narrow_b1]
  (try refine ⟨rfl, ?_⟩); (try refine ⟨rfl, ?_⟩)
  first | (intro acts; rw [hret _ acts rfl rfl rfl]) | rw [hret _ _ rfl rfl rfl]
  exact Steps.refl _
/-- what holds at the law's entry: the machine, the code, the tables' words (any of lw_tbl by 'hts w (by decide +kernel)'), the script of L ints xs at the cell b, what the Statement gives of the start (any of its parts by flat_of_before) -/
def lw_At (p : Program) (s : State) (m : MethodId) (meth : Method) (c : Code) (b L : Nat) (xs : Nat → Int32) : Prop :=
  p.tables.exec = Jvm.exec ∧ c.code = code ∧ meth.sig.returnType = ret ∧ c.maxLocals = 4 ∧ s.vm.findClass R_law = some m.cls ∧ (∀ w ∈ lw_tbl, w.before #[Value.ref b] s = true) ∧ va_X b L xs s s.heap ∧ b < s.heap.size ∧ meth.locks = false ∧ (Jvm.Cond.and given_1 narrow_1).before #[Value.ref b] s = true
/-! the law: both worlds side by side -/
theorem frM_of {G : Ge} {A : Nat → Prop} {S : St} (hD : va_D A (wM G S)) : ∀ q : Nat, frM G q → A q := by
  rintro q ⟨i, hi, rfl⟩
  have hm : (wM G S).map Prod.fst = (List.range 28).map G.2.2 := rfl
  have h1 : ((wM G S).map Prod.fst)[i]? = some (G.2.2 i) := by rw [hm, List.getElem?_map, List.getElem?_range hi]; rfl
  rw [List.getElem?_map] at h1
  obtain ⟨x, hx, he⟩ := Option.map_eq_some_iff.mp h1
  rw [← he]; exact hD.2 i x hx
theorem frM_in {G : Ge} {A : Nat → Prop} {S : St} (hD : va_D A (wM G S)) : va_D (frM G) (wM G S) := ⟨hD.1, fun k x hx => by
  have hm : (wM G S).map Prod.fst = (List.range 28).map G.2.2 := rfl
  have h1 : ((wM G S).map Prod.fst)[k]? = some x.1 := by rw [List.getElem?_map, hx]; rfl
  rw [hm] at h1
  obtain ⟨i, hi, he⟩ := List.mem_map.mp (List.mem_of_getElem? h1)
  exact ⟨i, List.mem_range.mp hi, he.symm⟩⟩
theorem va_D.left {A : Nat → Prop} {w1 w2 : va_W} (h : va_D A (w1 ++ w2)) : va_D A w1 := ⟨fun i j x z hx hz => h.1 i j x z (by rw [List.getElem?_append_left (List.getElem?_eq_some_iff.mp hx).1]; exact hx) (by rw [List.getElem?_append_left (List.getElem?_eq_some_iff.mp hz).1]; exact hz), fun k x hx => h.2 k x (by rw [List.getElem?_append_left (List.getElem?_eq_some_iff.mp hx).1]; exact hx)⟩
theorem va_getR {w1 w2 : va_W} {k : Nat} {x : Nat × va_E} (hx : w2[k]? = some x) : (w1 ++ w2)[w1.length + k]? = some x := by rw [List.getElem?_append_right (Nat.le_add_right _ _), Nat.add_sub_cancel_left]; exact hx
theorem va_getL {w1 w2 : va_W} {k : Nat} {x : Nat × va_E} (hx : w1[k]? = some x) : (w1 ++ w2)[k]? = some x := by rw [List.getElem?_append_left (List.getElem?_eq_some_iff.mp hx).1]; exact hx
theorem va_D.right {A : Nat → Prop} {w1 w2 : va_W} (h : va_D A (w1 ++ w2)) : va_D A w2 := ⟨fun i j x z hx hz e => by
  have := h.1 _ _ x z (va_getR hx) (va_getR hz) e
  omega, fun k x hx => h.2 _ x (va_getR hx)⟩
theorem va_D.two {A : Nat → Prop} {w1 w2 : va_W} (h : va_D A (w1 ++ w2)) {i j : Nat} {x z : Nat × va_E} (hx : w1[i]? = some x) (hz : w2[j]? = some z) : ¬ x.1 = z.1 := fun e => by
  have := h.1 _ _ x z (va_getL hx) (va_getR hz) e
  have := (List.getElem?_eq_some_iff.mp hx).1
  omega
theorem va_P.left {D : va_G} {cl : List vw_C} {w1 w2 : va_W} {H : Heap} (h : va_P D cl (w1 ++ w2) H) : va_P D cl w1 H := fun k x hx => h k x (va_getL hx)
theorem va_P.right {D : va_G} {cl : List vw_C} {w1 w2 : va_W} {H : Heap} (h : va_P D cl (w1 ++ w2) H) : va_P D cl w2 H := fun k x hx => h _ x (va_getR hx)
abbrev aS (s : State) : Nat → Prop := fun q => s.heap.size ≤ q
/-- between two calls of the law -/
def LJ (G M : Ge) (s : State) (H : Heap) (locs : List Loc) (S U : St) : Prop := (va_K G.1 vwCl (tysK G) s ∧ va_K M.1 vwCl (tysK M) s ∧ Nst s) ∧ (va_P G.1 vwCl (wC G S) H ∧ va_D (frC G) (wC G S)) ∧ (va_P M.1 vwCl (wM M U) H ∧ va_D (frM M) (wM M U)) ∧ ((∀ q : Nat, frC G q → ¬ frM M q) ∧ (∀ q : Nat, frC G q → aS s q) ∧ ∀ q : Nat, frM M q → aS s q) ∧ va_S (aS s) s.heap H locs
section LROW
variable {p : Program} {l : Launch} {e : Env} {R : Room} {s : State} {m : MethodId} {args : Array Value} {below : List Frame} {meth : Method} {c : Code} {H : Heap} {locs : List Loc} {cells slots : Nat} {Q : State → Prop}
variable {cc : ByteArray} {pc nL : Nat} {ls : Array Slot} {rest : List Value} {own : String} {G M : Ge} {S U : St} {st As : List Value} {b : Nat}
theorem LJ.preC (J : LJ G M s H locs S U) {q0 ci N : Nat} {C : String} {T : u_T} {fs : List Value} (he : (wC G S)[q0]? = some (b, .inr (ci, fs))) (hc : vwCl[ci]? = some (C, T, N)) : PreV s H C b (va_Pc (.ref b :: As) (WC (KC G) S)) As := ⟨WC.blind, va_recv J.1.1 J.2.1.1 hc he, fun X hU hW => ⟨rfl, va_K.moved hW.alike J.1.1, by rw [hU]; exact J.2.1.1, J.2.1.2, Nst.warm hW J.1.2.2⟩⟩
theorem LJ.preM (J : LJ G M s H locs S U) {q0 ci N : Nat} {C : String} {T : u_T} {fs : List Value} (he : (wM M U)[q0]? = some (b, .inr (ci, fs))) (hc : vwCl[ci]? = some (C, T, N)) : PreV s H C b (va_Pc (.ref b :: As) (WC (KM M) U)) As := ⟨WC.blind, va_recv J.1.2.1 J.2.2.1.1 hc he, fun X hU hW => ⟨rfl, va_K.moved hW.alike J.1.2.1, by rw [hU]; exact J.2.2.1.1, J.2.2.1.2, Nst.warm hW J.1.2.2⟩⟩
theorem lw_C {post : Int → St → Prop} {aa : Array Value} (J : LJ G M s H locs S U) (hr : va_Run p l e R s m args below meth c H locs cells slots 0 0 (F0 m pc ls st) rest (QI (KC G) post aa) (frC G)) (kk : ∀ (z : Int) (S1 : St) (H1 : Heap) (locs1 : List Loc), post z S1 → LJ G M s H1 locs1 S1 U → W p l e R s m args below meth c H1 locs1 cells slots Q (F0 m (pc + 3) ls (.int (iI z) :: rest))) : W p l e R s m args below meth c H locs cells slots Q (F0 m pc ls st) :=
  va_calli hr J.2.2.2.2 (fun q _ h => J.2.2.2.1.2.1 q h) (fun q h => J.2.2.2.1.2.1 q h) (fun r u t H1 locs1 ht _ hp hB _ hk hS => by
    obtain ⟨z, rfl, hq⟩ := hp
    exact kk z u H1 locs1 hq ⟨J.1, ⟨by rw [← ht]; exact hB.2.1, hB.2.2.1⟩, ⟨J.2.2.1.1.kept (fun k x hx => hk x.1 ((J.2.2.1.1 k x hx).lt) (fun h => J.2.2.2.1.1 _ h (J.2.2.1.2.2 k x hx))), J.2.2.1.2⟩, J.2.2.2.1, hS⟩)
theorem lw_M {post : Int → St → Prop} {aa : Array Value} (J : LJ G M s H locs S U) (hr : va_Run p l e R s m args below meth c H locs cells slots 0 0 (F0 m pc ls st) rest (QI (KM M) post aa) (frM M)) (kk : ∀ (z : Int) (U1 : St) (H1 : Heap) (locs1 : List Loc), post z U1 → LJ G M s H1 locs1 S U1 → W p l e R s m args below meth c H1 locs1 cells slots Q (F0 m (pc + 3) ls (.int (iI z) :: rest))) : W p l e R s m args below meth c H locs cells slots Q (F0 m pc ls st) :=
  va_calli hr J.2.2.2.2 (fun q _ h => J.2.2.2.1.2.2 q h) (fun q h => J.2.2.2.1.2.2 q h) (fun r u t H1 locs1 ht _ hp hB _ hk hS => by
    obtain ⟨z, rfl, hq⟩ := hp
    exact kk z u H1 locs1 hq ⟨J.1, ⟨J.2.1.1.kept (fun k x hx => hk x.1 ((J.2.1.1 k x hx).lt) (fun h => J.2.2.2.1.1 _ (J.2.1.2.2 k x hx) h)), J.2.1.2⟩, ⟨by rw [← ht]; exact hB.2.1, hB.2.2.1⟩, J.2.2.2.1, hS⟩)
/-- a number of the script -/
def xv (xs : Nat → Int32) (i : Int) : Int := (xs i.toNat).toInt
theorem xv_r (xs : Nat → Int32) (i : Int) : -2147483648 ≤ xv xs i ∧ xv xs i < 2147483648 := ⟨(xs i.toNat).minValue_le_toInt, (xs i.toNat).toInt_lt⟩
theorem w_arg (X : CallFix p m c cL_law 4 s args TB own) {L : Nat} {xs : Nat → Int32} (hX : va_X b L xs s s.heap) (hbl : b < s.heap.size) (hL : L ≤ 2048) (hS : va_S (aS s) s.heap H locs) {v1 v2 : Value} {i j : Int} (hl : lv_has ls 4 [(0, .ref b), (1, v1), (2, v2), (3, .int (iI i))]) (hi : 0 ≤ i) (hj : 0 ≤ j) (hij : i + j < L) (d0 : decode cL_law pc = .ok (.aload_n 0, 1)) (d1 : decode cL_law (pc + 1) = .ok (.iload_n 3, 1)) (d2 : decode cL_law (pc + 2) = .ok (.iconst j, 1)) (d3 : decode cL_law (pc + 3) = .ok (.iadd, 1)) (d4 : decode cL_law (pc + 4) = .ok (.iaload, 1))
    (kk : W p l e R s m args below meth c H locs cells slots Q (F0 m (pc + 5) ls (.int (iI (xv xs (i + j))) :: rest))) : W p l e R s m args below meth c H locs cells slots Q (F0 m pc ls rest) := by
  refine lv_aload_n X.1 X.2.1 d0 rfl (lv_at hl 0 rfl) ?_
  refine lv_iload_n X.1 X.2.1 d1 rfl (lv_at hl 3 rfl) ?_
  refine ri_const X (v := j) d2 ?_
  refine ri_add X (v := i + j) rfl d3 ?_
  refine va_sld X.1 X.2.1 hX hbl (Nat.not_le.mpr hbl) hS (iI_in (by omega) hij (by omega)) d4 ?_
  have e := iI_cl (show 0 ≤ i + j by omega) (by omega)
  rw [show (iI (i + j)).toNatClampNeg = (i + j).toNat by omega, ← iI_of (xs (i + j).toNat)]
  exact kk
end LROW

