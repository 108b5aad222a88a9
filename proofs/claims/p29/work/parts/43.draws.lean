/-! the script's numbers; what is drawn of them -/
section KX
variable {K : Sd} {l : Launch} {y : MethodName} {cc : ByteArray} {n : Nat} {ret : Option FieldType} {rm : Room} {av : List Value} {S : St} {own : String}
/-- what is known of the script -/
def XS (b L : Nat) (xs : Nat → Int32) (U : State) : Prop := va_X b L xs U U.heap ∧ b < U.heap.size
theorem K_startX {E : State → Prop} {Qc : Array Value → State → Outcome → State → Prop} (hy : plainName y.cls = true) (hc : y.cls = own) (hn : (lg_sl av).length ≤ n)
    (body : ∀ (p : Program) (e : Env) (s : State) (m : MethodId) (args : Array Value) (below : List Frame) (meth : Method) (c : Code), CallFix p m c cc n s args TB own → meth.sig.returnType = ret → meth.locks = false → In K s s.heap s.heap [] S → E s → ∀ ls : Array Slot, lv_has ls n (lv_args 0 av) →
      W p l e rm s m args below meth c s.heap [] 0 0 (MQ below Qc args s 0 0 K.2.2.2) (F0 m 0 ls [])) : Met l y (.code y cc n ret :: TB) rm (va_Pc av (fun U => WC K S U ∧ E U)) Qc 0 0 K.2.2.2 := by
  refine Met.ofW (cc := cc) (maxL := n) (ret := ret) hy rfl ?_
  intro p e s m args below meth c s₁ B hml hv
  obtain ⟨rfl, ⟨hK, hP, hD, hN⟩, hE⟩ := hv
  have hts := atoms_spec (ws := .code y cc n ret :: TB) B.pre
  have hown : s.vm.findClass y.cls = some m.cls := findClass_of_methodNamed B.named
  rw [hc] at hown
  rw [lg_entry_eq]
  exact body p e s m _ below meth c ⟨B.exec, B.bytes, hml, hown, fun w h => hts w (List.mem_cons_of_mem _ h)⟩ B.returns B.notSynchronized ⟨hK, hP, hD, va_S.rf, hN⟩ hE _ (lv_entry av hn)
theorem K_start0 {E : State → Prop} {Qc : Array Value → State → Outcome → State → Prop} {A : Addr → Prop} (hy : plainName y.cls = true) (hc : y.cls = own) (hn : (lg_sl av).length ≤ n)
    (body : ∀ (p : Program) (e : Env) (s : State) (m : MethodId) (args : Array Value) (below : List Frame) (meth : Method) (c : Code), CallFix p m c cc n s args TB own → meth.sig.returnType = ret → meth.locks = false → E s → ∀ ls : Array Slot, lv_has ls n (lv_args 0 av) →
      W p l e rm s m args below meth c s.heap [] 0 0 (MQ below Qc args s 0 0 A) (F0 m 0 ls [])) : Met l y (.code y cc n ret :: TB) rm (va_Pc av E) Qc 0 0 A := by
  refine Met.ofW (cc := cc) (maxL := n) (ret := ret) hy rfl ?_
  intro p e s m args below meth c s₁ B hml hv
  obtain ⟨rfl, hE⟩ := hv
  have hts := atoms_spec (ws := .code y cc n ret :: TB) B.pre
  have hown : s.vm.findClass y.cls = some m.cls := findClass_of_methodNamed B.named
  rw [hc] at hown
  rw [lg_entry_eq]
  exact body p e s m _ below meth c ⟨B.exec, B.bytes, hml, hown, fun w h => hts w (List.mem_cons_of_mem _ h)⟩ B.returns B.notSynchronized hE _ (lv_entry av hn)
end KX
theorem XS_blind {b L : Nat} {xs : Nat → Int32} {av : List Value} : FrameBlind (va_Pc av (XS b L xs)) := fun a U g mk q => ⟨q.1, va_X.moved (u := U) (U := U.calling g mk a) (Vm.Alike.refl U.vm) q.2.1, q.2.2⟩
theorem ok_L_cell : yL_cell.cls ≠ "java/lang/invoke/MethodHandle" ∧ yL_cell.cls ≠ "java/lang/invoke/VarHandle" ∧ (parseMethodDescriptor yL_cell.desc).map (fun d => d.parameters.length) = some 2 := ⟨by decide +kernel, by decide +kernel, by decide +kernel⟩
abbrev rm_L_cell : Room := ({ frames := 0, cells := 0, slots := 0, locals := 0 } : Room)
abbrev qc_cell : Array Value → State → Outcome → State → Prop := va_Qi (fun (r : Int32) (_ : Unit) => ∃ z : Int, r = iI z ∧ 0 ≤ z ∧ z < 2147483648) (fun _ _ => True) (fun _ => False)
set_option maxRecDepth 100000 in
set_option maxHeartbeats 4000000 in
theorem k_L_cell (l : Launch) (b L : Nat) (xs : Nat → Int32) (k : Int) (hL : L ≤ 260) (hk : 0 ≤ k ∧ k < 64) : Met l yL_cell (.code yL_cell cL_cell 2 (some .int) :: TB) rm_L_cell (va_Pc [.ref b, .int (iI k)] (XS b L xs)) qc_cell 0 0 (fun _ => False) := by
  refine K_start0 (own := "NameSeekerLaw") (by decide +kernel) rfl (Nat.le_of_ble_eq_true rfl) ?_
  intro p e s m args below meth c X hr hlk hE ls hl
  obtain ⟨hX, hbl⟩ := hE
  have hl : lv_has ls 2 [(0, .ref b), (1, .int (iI k))] := hl
  have hS : va_S (fun _ => False) s.heap s.heap [] := va_S.rf
  have fin : ∀ x : Int32, W p l e rm_L_cell s m args below meth c s.heap [] 0 0 (MQ below qc_cell args s 0 0 (fun _ => False)) (F0 m 19 ls [.int x]) := fun x => by
    refine ri_ldc X (v := 2147483647) tb_485 rfl dL_cell_19 ?_
    refine lv_iand X.1 X.2.1 dL_cell_21 ?_
    obtain ⟨z, hz, ez⟩ := iI_mask x
    rw [ez]
    exact W.zret (v := iI z) X.1 X.2.1 hr rfl (fun t ht hW => ⟨⟨iI z, (), rfl, ⟨z, rfl, hz⟩, trivial⟩, hS.F ht⟩) hS.2.2 dL_cell_22 hlk
  refine lv_iload_n X.1 X.2.1 dL_cell_0 rfl (lv_at hl 1 rfl) ?_
  refine lv_aload_n X.1 X.2.1 dL_cell_1 rfl (lv_at hl 0 rfl) ?_
  refine va_slen X.1 X.2.1 hX hbl (fun h => h) hS dL_cell_2 ?_
  rw [show Int32.ofNat L = iI (L : Int) from (iI_nat L).symm]
  refine rj_ge (tgt := 12) X (by omega) (by omega) dL_cell_3 (by decide) (fun c1 => ?_) (fun c1 => ?_)
  · refine ri_ldc X (v := 15485959) tb_484 rfl dL_cell_12 ?_
    refine lv_iload_n X.1 X.2.1 dL_cell_14 rfl (lv_at hl 1 rfl) ?_
    refine ri_mul X (v := 15485959 * k) rfl dL_cell_15 ?_
    refine ri_push X (v := 109) (by decide) dL_cell_16 ?_
    refine ri_add X (v := 15485959 * k + 109) rfl dL_cell_18 ?_
    exact fin _
  · refine lv_aload_n X.1 X.2.1 dL_cell_6 rfl (lv_at hl 0 rfl) ?_
    refine lv_iload_n X.1 X.2.1 dL_cell_7 rfl (lv_at hl 1 rfl) ?_
    refine va_sld X.1 X.2.1 hX hbl (fun h => h) hS (iI_in hk.1 (by omega) (by omega)) dL_cell_8 ?_
    refine lv_goto (tgt := 19) X.1 X.2.1 dL_cell_9 (by decide) ?_
    exact fin _
section CELL
variable {p : Program} {l : Launch} {e : Env} {R : Room} {s : State} {m : MethodId} {args : Array Value} {below : List Frame} {meth : Method} {c : Code} {H : Heap} {locs : List Loc} {cells slots : Nat} {Q : State → Prop}
variable {cc : ByteArray} {pc nL : Nat} {ls : Array Slot} {rest : List Value} {S : St} {G : Ge} {A : Nat → Prop} {b L : Nat} {xs : Nat → Int32}
theorem XS_in (I : In (KL A G) s s.heap H locs S) (hE : XS b L xs s) (hbA : ¬ A b) {U : State} (hU : U.heap = H) (hW : s.WarmedH U.vm) : XS b L xs U := by
  refine ⟨?_, ?_⟩
  · rw [hU]; exact (hE.1.moved hW.alike).kept (I.2.2.2.1.2.1 b hE.2 hbA)
  · rw [hU]; exact Nat.lt_of_lt_of_le hE.2 I.2.2.2.1.1
theorem cl_cell (X : CallFix p m c cc nL s args TB "NameSeekerLaw") (I : In (KL A G) s s.heap H locs S) (hE : XS b L xs s) (hbA : ¬ A b) (hL : L ≤ 260) {k : Int} (hk : 0 ≤ k ∧ k < 64) (hl : ls.size = nL) (hst : (rest.map fun v => v.category).sum ≤ 8) (hfr : 1 ≤ R.frames) (hlo : 21 ≤ R.locals) (hcs : cells ≤ R.cells ∧ slots ≤ R.slots) (hdg : decode cc pc = .ok (.invokestatic 9, 3))
    (kk : ∀ (z : Int) (H1 : Heap) (locs1 : List Loc), 0 ≤ z ∧ z < 2147483648 → In (KL A G) s s.heap H1 locs1 S → W p l e R s m args below meth c H1 locs1 cells slots Q (F0 m (pc + 3) ls (.int (iI z) :: rest))) : W p l e R s m args below meth c H locs cells slots Q (F0 m pc ls (.int (iI k) :: .ref b :: rest)) := by
  refine va_calli (A1 := fun _ => False) (runS (As := [.ref b, .int (iI k)]) (rest := rest) X (k_L_cell l b L xs k hL hk) (gdC tb_483 gdB) tb_481 tb_482 tb_13 ⟨ok_L_cell, ⟨hfr, hlo⟩, rfl, rfl⟩ ⟨XS_blind, fun U hU hW => ⟨rfl, XS_in I hE hbA hU hW⟩⟩ rfl hl rfl hst hdg hcs) I.2.2.2.1 (fun _ _ h => h.elim) (fun _ h => h.elim) (fun r u t H1 locs1 ht _ hp _ _ hk2 hS => ?_)
  obtain ⟨z, rfl, hz⟩ := hp
  exact kk z H1 locs1 hz ⟨I.1, I.2.1.kept (fun k x hx => hk2 x.1 ((I.2.1 k x hx).lt) (fun h => h)), I.2.2.1, hS, I.2.2.2.2⟩
end CELL
/-- so much is drawn -/
def DR (T Y : Int → Int) (n : Int) : Prop := (1 ≤ T 0 ∧ T 0 ≤ 8) ∧ ∀ i : Int, 0 ≤ i → i < n → (1 ≤ T (1 + i) ∧ T (1 + i) ≤ 12) ∧ (0 ≤ T (9 + i) ∧ T (9 + i) ≤ 3) ∧ (0 ≤ Y i ∧ Y i < 68719476736)
theorem DR_s {T Y : Int → Int} {n a b z : Int} (h : DR T Y n) (h0 : 0 ≤ n ∧ n < 8) (ha : 1 ≤ a ∧ a ≤ 12) (hb : 0 ≤ b ∧ b ≤ 3) (hz : 0 ≤ z ∧ z < 68719476736) : DR (uf (uf (uf T (1 + n) a) (9 + n) b) (20 + n) 0) (uf Y n z) (n + 1) := by
  refine ⟨?_, fun i i0 i1 => ?_⟩
  · rw [uf_ne (by omega), uf_ne (by omega), uf_ne (by omega)]; exact h.1
  · rcases Int.lt_or_le i n with w | w
    · rw [uf_ne (by omega), uf_ne (by omega), uf_ne (by omega), uf_ne (by omega), uf_ne (by omega), uf_ne (by omega), uf_ne (by omega)]
      exact h.2 i i0 w
    · rw [show i = n by omega, uf_ne (show ¬ 1 + n = 20 + n by omega), uf_ne (show ¬ 1 + n = 9 + n by omega), uf_eq, uf_ne (show ¬ 9 + n = 20 + n by omega), uf_eq, uf_eq]
      exact ⟨ha, hb, hz⟩
theorem DR_t {T Y : Int → Int} {a b z : Int} (h : DR T Y 8) (ha : 0 ≤ a ∧ a ≤ 9) (hb : 0 ≤ b ∧ b ≤ 9) (hz : 0 ≤ z ∧ z ≤ 9) : TOK (uf (uf (uf T 17 a) 18 b) 19 z) Y := by
  refine ⟨?_, fun i i0 i1 => ?_, ?_, ?_, ?_⟩
  · rw [uf_ne (by omega), uf_ne (by omega), uf_ne (by omega)]; exact h.1
  · rw [uf_ne (by omega), uf_ne (by omega), uf_ne (by omega), uf_ne (by omega), uf_ne (by omega), uf_ne (by omega)]
    exact h.2 i i0 i1
  · rw [uf_ne (by omega), uf_ne (by omega), uf_eq]; exact ha
  · rw [uf_ne (by omega), uf_eq]; exact hb
  · rw [uf_eq]; exact hz
theorem ok_L_draws : yL_draws.cls ≠ "java/lang/invoke/MethodHandle" ∧ yL_draws.cls ≠ "java/lang/invoke/VarHandle" ∧ (parseMethodDescriptor yL_draws.desc).map (fun d => d.parameters.length) = some 4 := ⟨by decide +kernel, by decide +kernel, by decide +kernel⟩
abbrev po_L_draws (S : St) (V HD : Int → Int) : St → Prop := fun S1 => (∃ T_ Y_ : Int → Int, TOK T_ Y_ ∧ AR T_ Y_ V HD S1) ∧ S1.2 = S.2 ∧ ∀ (c_ : Nat) (i_ : Int), c_ < 70 → S1.1 c_ i_ = S.1 c_ i_
abbrev rm_L_draws : Room := ({ frames := 1, cells := 0, slots := 0, locals := 21 } : Room)
set_option maxRecDepth 100000 in
set_option maxHeartbeats 4000000 in
theorem k_L_draws (l : Launch) (A : Nat → Prop) (G : Ge) (S : St) (b L : Nat) (xs : Nat → Int32) (T Y V HD : Int → Int) (hA : AR T Y V HD S) (hL : L ≤ 260) (hbA : ¬ A b) : Met l yL_draws (.code yL_draws cL_draws 10 none :: TB) rm_L_draws (va_Pc [.ref b, .int (iI 0), .ref (G.2.2 57), .ref (G.2.2 58)] (fun U => WC (KL A G) S U ∧ XS b L xs U)) (QV (KL A G) (po_L_draws S V HD)) 0 0 A := by
  refine K_startX (K := KL A G) (own := "NameSeekerLaw") (by decide +kernel) rfl (Nat.le_of_ble_eq_true rfl) ?_
  intro p e s m args below meth c X hr hlk I hE ls hl
  have hl : lv_has ls 10 [(0, .ref b), (1, .int (iI 0)), (2, .ref (G.2.2 57)), (3, .ref (G.2.2 58))] := hl
  have hF : ∀ (c_ : Nat) (i_ : Int), c_ < 70 → S.1 c_ i_ = S.1 c_ i_ := fun _ _ _ => rfl
  have hF2 : S.2 = S.2 := rfl
  refine lv_aload_n X.1 X.2.1 dL_draws_0 rfl (lv_at hl 2 rfl) ?_
  refine ri_const X (v := 0) dL_draws_1 ?_
  refine ri_const X (v := 1) dL_draws_2 ?_
  refine lv_aload_n X.1 X.2.1 dL_draws_3 rfl (lv_at hl 0 rfl) ?_
  refine lv_iload_n X.1 X.2.1 dL_draws_4 rfl (lv_at hl 1 rfl) ?_
  refine cl_cell X I hE hbA hL (k := 0) (by omega) hl.1 (Nat.le_of_ble_eq_true rfl) (Nat.le_of_ble_eq_true rfl) (Nat.le_of_ble_eq_true rfl) ⟨Nat.zero_le _, Nat.zero_le _⟩ dL_draws_5 (fun z1 H locs hz1 I => ?_)
  refine ri_push X (v := 8) (by decide) dL_draws_8 ?_
  refine ri_rem X (v := (z1 % 8)) rfl (by omega) (by omega) dL_draws_10 ?_
  refine ri_add X (v := (1 + (z1 % 8))) rfl dL_draws_11 ?_
  refine qL_lt X I (by omega) dL_draws_12 (fun H locs I => ?_)
  obtain ⟨S2, hS2⟩ : ∃ u_ : St, u_ = (ua S.1 70 0 (1 + (z1 % 8)), S.2) := ⟨_, rfl⟩
  rw [← hS2] at I
  have hA := AR_lt (z := 0) (v := (1 + (z1 % 8))) hA hS2
  have hF := fun (c_ : Nat) (i_ : Int) (z_ : c_ < 70) => (show S2.1 c_ i_ = S.1 c_ i_ by rw [hS2]; exact ua_nc (by omega)).trans (hF c_ i_ z_)
  have hF2 : S2.2 = S.2 := (congrArg Prod.snd hS2).trans hF2
  refine ri_const X (v := 0) dL_draws_13 ?_
  refine lv_istore (lv' := [(4, .int (iI 0)), (0, .ref b), (1, .int (iI 0)), (2, .ref (G.2.2 57)), (3, .ref (G.2.2 58))]) X.1 X.2.1 dL_draws_14 hl (by decide) rfl (fun ls hl => ?_)
  have lp_16 : ∀ (fu_ : Nat) (n_ : Nat) (U : St) (T : Int → Int) (Y : Int → Int), 9 - n_ < fu_ → ∀ (hn : n_ ≤ 8) (hA : AR T Y V HD U) (hD : DR T Y n_) (hF : ∀ (c_ : Nat) (i_ : Int), c_ < 70 → U.1 c_ i_ = S.1 c_ i_) (hF2 : U.2 = S.2) (H : Heap) (locs : List Loc), In (KL A G) s s.heap H locs U → ∀ ls : Array Slot, lv_has ls 10 [(0, .ref b), (1, .int (iI 0)), (2, .ref (G.2.2 57)), (3, .ref (G.2.2 58)), (4, .int (iI ((n_ : Nat) : Int)))] → W p l e rm_L_draws s m args below meth c H locs 0 0 (MQ below (QV (KL A G) (po_L_draws S V HD)) args s 0 0 A) (F0 m 16 ls []) := by
    intro fu_
    induction fu_ with
    | zero => intro n_ U T Y hm; exact absurd hm (by omega)
    | succ fu_ ih_16 =>
      intro n_ U T Y hm_16 hn hA hD hF hF2 H locs I ls hl
      refine lv_iload X.1 X.2.1 dL_draws_16 (lv_at hl 4 rfl) ?_
      refine ri_push X (v := 8) (by decide) dL_draws_18 ?_
      refine rj_ge (tgt := 158) X (by omega) (by omega) dL_draws_20 (by decide) (fun c3 => ?_) (fun c3 => ?_)
      · skip
        refine lv_aload_n X.1 X.2.1 dL_draws_158 rfl (lv_at hl 0 rfl) ?_
        refine lv_iload_n X.1 X.2.1 dL_draws_159 rfl (lv_at hl 1 rfl) ?_
        refine ri_const X (v := 1) dL_draws_160 ?_
        refine ri_add X (v := 1) (by decide) dL_draws_161 ?_
        refine cl_cell X I hE hbA hL (k := 1) (by omega) hl.1 (Nat.le_of_ble_eq_true rfl) (Nat.le_of_ble_eq_true rfl) (Nat.le_of_ble_eq_true rfl) ⟨Nat.zero_le _, Nat.zero_le _⟩ dL_draws_162 (fun z4 H locs hz4 I => ?_)
        refine lv_istore (lv' := [(4, .int (iI z4)), (0, .ref b), (1, .int (iI 0)), (2, .ref (G.2.2 57)), (3, .ref (G.2.2 58))]) X.1 X.2.1 dL_draws_165 hl (by decide) rfl (fun ls hl => ?_)
        refine lv_aload_n X.1 X.2.1 dL_draws_167 rfl (lv_at hl 3 rfl) ?_
        refine ri_push X (v := 17) (by decide) dL_draws_168 ?_
        refine lv_iload X.1 X.2.1 dL_draws_170 (lv_at hl 0 rfl) ?_
        refine ri_push X (v := 10) (by decide) dL_draws_172 ?_
        refine ri_rem X (v := (z4 % 10)) rfl (by omega) (by omega) dL_draws_174 ?_
        refine qL_lt X I (by omega) dL_draws_175 (fun H locs I => ?_)
        obtain ⟨S5, hS5⟩ : ∃ u_ : St, u_ = (ua U.1 70 17 (z4 % 10), U.2) := ⟨_, rfl⟩
        rw [← hS5] at I
        have hA := AR_lt (z := 17) (v := (z4 % 10)) hA hS5
        have hF := fun (c_ : Nat) (i_ : Int) (z_ : c_ < 70) => (show S5.1 c_ i_ = U.1 c_ i_ by rw [hS5]; exact ua_nc (by omega)).trans (hF c_ i_ z_)
        have hF2 : S5.2 = S.2 := (congrArg Prod.snd hS5).trans hF2
        refine lv_aload_n X.1 X.2.1 dL_draws_176 rfl (lv_at hl 3 rfl) ?_
        refine ri_push X (v := 18) (by decide) dL_draws_177 ?_
        refine lv_iload X.1 X.2.1 dL_draws_179 (lv_at hl 0 rfl) ?_
        refine ri_const X (v := 5) dL_draws_181 ?_
        refine ri_shr X (by omega) (by omega) dL_draws_182 ?_
        have t6 := shr_r (a := z4) (k := 5) (by omega)
        refine ri_push X (v := 10) (by decide) dL_draws_183 ?_
        refine ri_rem X (v := ((shr z4 5) % 10)) rfl (by omega) (by omega) dL_draws_185 ?_
        refine qL_lt X I (by omega) dL_draws_186 (fun H locs I => ?_)
        obtain ⟨S7, hS7⟩ : ∃ u_ : St, u_ = (ua S5.1 70 18 ((shr z4 5) % 10), S5.2) := ⟨_, rfl⟩
        rw [← hS7] at I
        have hA := AR_lt (z := 18) (v := ((shr z4 5) % 10)) hA hS7
        have hF := fun (c_ : Nat) (i_ : Int) (z_ : c_ < 70) => (show S7.1 c_ i_ = S5.1 c_ i_ by rw [hS7]; exact ua_nc (by omega)).trans (hF c_ i_ z_)
        have hF2 : S7.2 = S.2 := (congrArg Prod.snd hS7).trans hF2
        refine lv_aload_n X.1 X.2.1 dL_draws_187 rfl (lv_at hl 3 rfl) ?_
        refine ri_push X (v := 19) (by decide) dL_draws_188 ?_
        refine lv_iload X.1 X.2.1 dL_draws_190 (lv_at hl 0 rfl) ?_
        refine ri_push X (v := 10) (by decide) dL_draws_192 ?_
        refine ri_shr X (by omega) (by omega) dL_draws_194 ?_
        have t8 := shr_r (a := z4) (k := 10) (by omega)
        refine ri_push X (v := 10) (by decide) dL_draws_195 ?_
        refine ri_rem X (v := ((shr z4 10) % 10)) rfl (by omega) (by omega) dL_draws_197 ?_
        refine qL_lt X I (by omega) dL_draws_198 (fun H locs I => ?_)
        obtain ⟨S9, hS9⟩ : ∃ u_ : St, u_ = (ua S7.1 70 19 ((shr z4 10) % 10), S7.2) := ⟨_, rfl⟩
        rw [← hS9] at I
        have hA := AR_lt (z := 19) (v := ((shr z4 10) % 10)) hA hS9
        have hF := fun (c_ : Nat) (i_ : Int) (z_ : c_ < 70) => (show S9.1 c_ i_ = S7.1 c_ i_ by rw [hS9]; exact ua_nc (by omega)).trans (hF c_ i_ z_)
        have hF2 : S9.2 = S.2 := (congrArg Prod.snd hS9).trans hF2
        exact rt_v X hr hlk I (⟨⟨_, _, DR_t (by rw [show (8 : Int) = (n_ : Int) by omega]; exact hD) (by omega) (by omega) (by omega), hA⟩, hF2, hF⟩) dL_draws_199
      · skip
        refine lv_aload_n X.1 X.2.1 dL_draws_23 rfl (lv_at hl 0 rfl) ?_
        refine lv_iload_n X.1 X.2.1 dL_draws_24 rfl (lv_at hl 1 rfl) ?_
        refine ri_const X (v := 2) dL_draws_25 ?_
        refine ri_add X (v := 2) (by decide) dL_draws_26 ?_
        refine lv_iload X.1 X.2.1 dL_draws_27 (lv_at hl 4 rfl) ?_
        refine ri_add X (v := (2 + ((n_ : Nat) : Int))) rfl dL_draws_29 ?_
        refine cl_cell X I hE hbA hL (k := (2 + ((n_ : Nat) : Int))) (by omega) hl.1 (Nat.le_of_ble_eq_true rfl) (Nat.le_of_ble_eq_true rfl) (Nat.le_of_ble_eq_true rfl) ⟨Nat.zero_le _, Nat.zero_le _⟩ dL_draws_30 (fun z10 H locs hz10 I => ?_)
        refine lv_istore (lv' := [(5, .int (iI z10)), (0, .ref b), (1, .int (iI 0)), (2, .ref (G.2.2 57)), (3, .ref (G.2.2 58)), (4, .int (iI ((n_ : Nat) : Int)))]) X.1 X.2.1 dL_draws_33 hl (by decide) rfl (fun ls hl => ?_)
        refine lv_aload_n X.1 X.2.1 dL_draws_35 rfl (lv_at hl 3 rfl) ?_
        refine ri_const X (v := 1) dL_draws_36 ?_
        refine lv_iload X.1 X.2.1 dL_draws_37 (lv_at hl 5 rfl) ?_
        refine ri_add X (v := (1 + ((n_ : Nat) : Int))) rfl dL_draws_39 ?_
        refine ri_const X (v := 1) dL_draws_40 ?_
        refine lv_iload X.1 X.2.1 dL_draws_41 (lv_at hl 0 rfl) ?_
        refine ri_push X (v := 12) (by decide) dL_draws_43 ?_
        refine ri_rem X (v := (z10 % 12)) rfl (by omega) (by omega) dL_draws_45 ?_
        refine ri_add X (v := (1 + (z10 % 12))) rfl dL_draws_46 ?_
        refine qL_lt X I (by omega) dL_draws_47 (fun H locs I => ?_)
        obtain ⟨S11, hS11⟩ : ∃ u_ : St, u_ = (ua U.1 70 (1 + ((n_ : Nat) : Int)) (1 + (z10 % 12)), U.2) := ⟨_, rfl⟩
        rw [← hS11] at I
        have hA := AR_lt (z := (1 + ((n_ : Nat) : Int))) (v := (1 + (z10 % 12))) hA hS11
        have hF := fun (c_ : Nat) (i_ : Int) (z_ : c_ < 70) => (show S11.1 c_ i_ = U.1 c_ i_ by rw [hS11]; exact ua_nc (by omega)).trans (hF c_ i_ z_)
        have hF2 : S11.2 = S.2 := (congrArg Prod.snd hS11).trans hF2
        refine lv_aload_n X.1 X.2.1 dL_draws_48 rfl (lv_at hl 3 rfl) ?_
        refine ri_push X (v := 9) (by decide) dL_draws_49 ?_
        refine lv_iload X.1 X.2.1 dL_draws_51 (lv_at hl 5 rfl) ?_
        refine ri_add X (v := (9 + ((n_ : Nat) : Int))) rfl dL_draws_53 ?_
        refine lv_iload X.1 X.2.1 dL_draws_54 (lv_at hl 0 rfl) ?_
        refine ri_push X (v := 8) (by decide) dL_draws_56 ?_
        refine ri_shr X (by omega) (by omega) dL_draws_58 ?_
        have t12 := shr_r (a := z10) (k := 8) (by omega)
        refine ri_const X (v := 4) dL_draws_59 ?_
        refine ri_rem X (v := ((shr z10 8) % 4)) rfl (by omega) (by omega) dL_draws_60 ?_
        refine qL_lt X I (by omega) dL_draws_61 (fun H locs I => ?_)
        obtain ⟨S13, hS13⟩ : ∃ u_ : St, u_ = (ua S11.1 70 (9 + ((n_ : Nat) : Int)) ((shr z10 8) % 4), S11.2) := ⟨_, rfl⟩
        rw [← hS13] at I
        have hA := AR_lt (z := (9 + ((n_ : Nat) : Int))) (v := ((shr z10 8) % 4)) hA hS13
        have hF := fun (c_ : Nat) (i_ : Int) (z_ : c_ < 70) => (show S13.1 c_ i_ = S11.1 c_ i_ by rw [hS13]; exact ua_nc (by omega)).trans (hF c_ i_ z_)
        have hF2 : S13.2 = S.2 := (congrArg Prod.snd hS13).trans hF2
        refine lv_aload_n X.1 X.2.1 dL_draws_62 rfl (lv_at hl 3 rfl) ?_
        refine ri_push X (v := 20) (by decide) dL_draws_63 ?_
        refine lv_iload X.1 X.2.1 dL_draws_65 (lv_at hl 5 rfl) ?_
        refine ri_add X (v := (20 + ((n_ : Nat) : Int))) rfl dL_draws_67 ?_
        refine ri_const X (v := 0) dL_draws_68 ?_
        refine qL_lt X I (by omega) dL_draws_69 (fun H locs I => ?_)
        obtain ⟨S14, hS14⟩ : ∃ u_ : St, u_ = (ua S13.1 70 (20 + ((n_ : Nat) : Int)) 0, S13.2) := ⟨_, rfl⟩
        rw [← hS14] at I
        have hA := AR_lt (z := (20 + ((n_ : Nat) : Int))) (v := 0) hA hS14
        have hF := fun (c_ : Nat) (i_ : Int) (z_ : c_ < 70) => (show S14.1 c_ i_ = S13.1 c_ i_ by rw [hS14]; exact ua_nc (by omega)).trans (hF c_ i_ z_)
        have hF2 : S14.2 = S.2 := (congrArg Prod.snd hS14).trans hF2
        refine lv_aload_n X.1 X.2.1 dL_draws_70 rfl (lv_at hl 1 rfl) ?_
        refine lv_iload_n X.1 X.2.1 dL_draws_71 rfl (lv_at hl 2 rfl) ?_
        refine ri_push X (v := 10) (by decide) dL_draws_72 ?_
        refine ri_add X (v := 10) (by decide) dL_draws_74 ?_
        refine ri_const X (v := 2) dL_draws_75 ?_
        refine lv_iload X.1 X.2.1 dL_draws_76 (lv_at hl 5 rfl) ?_
        refine ri_mul X (v := (2 * ((n_ : Nat) : Int))) rfl dL_draws_78 ?_
        refine ri_add X (v := (10 + (2 * ((n_ : Nat) : Int)))) rfl dL_draws_79 ?_
        refine cl_cell X I hE hbA hL (k := (10 + (2 * ((n_ : Nat) : Int)))) (by omega) hl.1 (Nat.le_of_ble_eq_true rfl) (Nat.le_of_ble_eq_true rfl) (Nat.le_of_ble_eq_true rfl) ⟨Nat.zero_le _, Nat.zero_le _⟩ dL_draws_80 (fun z15 H locs hz15 I => ?_)
        refine ri_i2l X (by omega) dL_draws_83 ?_
        refine lv_lstore (lv' := [(6, .long (lI z15)), (5, .int (iI z10)), (0, .ref b), (1, .int (iI 0)), (2, .ref (G.2.2 57)), (3, .ref (G.2.2 58)), (4, .int (iI ((n_ : Nat) : Int)))]) X.1 X.2.1 dL_draws_84 hl (by decide) rfl (fun ls hl => ?_)
        refine lv_aload_n X.1 X.2.1 dL_draws_86 rfl (lv_at hl 2 rfl) ?_
        refine lv_iload_n X.1 X.2.1 dL_draws_87 rfl (lv_at hl 3 rfl) ?_
        refine ri_push X (v := 11) (by decide) dL_draws_88 ?_
        refine ri_add X (v := 11) (by decide) dL_draws_90 ?_
        refine ri_const X (v := 2) dL_draws_91 ?_
        refine lv_iload X.1 X.2.1 dL_draws_92 (lv_at hl 6 rfl) ?_
        refine ri_mul X (v := (2 * ((n_ : Nat) : Int))) rfl dL_draws_94 ?_
        refine ri_add X (v := (11 + (2 * ((n_ : Nat) : Int)))) rfl dL_draws_95 ?_
        refine cl_cell X I hE hbA hL (k := (11 + (2 * ((n_ : Nat) : Int)))) (by omega) hl.1 (Nat.le_of_ble_eq_true rfl) (Nat.le_of_ble_eq_true rfl) (Nat.le_of_ble_eq_true rfl) ⟨Nat.zero_le _, Nat.zero_le _⟩ dL_draws_96 (fun z16 H locs hz16 I => ?_)
        refine ri_i2l X (by omega) dL_draws_99 ?_
        refine lv_lstore (lv' := [(8, .long (lI z16)), (6, .long (lI z15)), (5, .int (iI z10)), (0, .ref b), (1, .int (iI 0)), (2, .ref (G.2.2 57)), (3, .ref (G.2.2 58)), (4, .int (iI ((n_ : Nat) : Int)))]) X.1 X.2.1 dL_draws_100 hl (by decide) rfl (fun ls hl => ?_)
        refine lv_aload_n X.1 X.2.1 dL_draws_102 rfl (lv_at hl 6 rfl) ?_
        refine lv_iload X.1 X.2.1 dL_draws_103 (lv_at hl 7 rfl) ?_
        refine lv_iload X.1 X.2.1 dL_draws_105 (lv_at hl 7 rfl) ?_
        refine rz_le (tgt := 139) X (by omega) dL_draws_107 (by decide) (fun c17 => ?_) (fun c17 => ?_)
        · skip
          refine lv_lload X.1 X.2.1 dL_draws_139 (lv_at hl 1 rfl) ?_
          refine lv_lload X.1 X.2.1 dL_draws_141 (lv_at hl 0 rfl) ?_
          refine ri_push X (v := 31) (by decide) dL_draws_143 ?_
          refine lv_lshl (v := ((lI z16) <<< ((iI 31).toInt64 &&& 63))) X.1 X.2.1 dL_draws_145 rfl ?_
          refine lv_lor X.1 X.2.1 dL_draws_146 ?_
          refine ri_ldc2 X (v := 68719476735) tb_490 rfl dL_draws_147 ?_
          refine rl_mask X dL_draws_150 (fun z_ hz_ => ?_)
          refine qL_lx X I (by omega) dL_draws_151 (fun H locs I => ?_)
          obtain ⟨S18, hS18⟩ : ∃ u_ : St, u_ = (ua S14.1 71 ((n_ : Nat) : Int) z_, S14.2) := ⟨_, rfl⟩
          rw [← hS18] at I
          have hA := AR_lx (z := ((n_ : Nat) : Int)) (v := z_) hA hS18
          have hF := fun (c_ : Nat) (i_ : Int) (z_ : c_ < 70) => (show S18.1 c_ i_ = S14.1 c_ i_ by rw [hS18]; exact ua_nc (by omega)).trans (hF c_ i_ z_)
          have hF2 : S18.2 = S.2 := (congrArg Prod.snd hS18).trans hF2
          refine ri_iinc X (k := 7) (v := (((n_ : Nat) : Int) + 1)) (lv' := [(4, .int (iI (((n_ : Nat) : Int) + 1))), (8, .long (lI z16)), (6, .long (lI z15)), (5, .int (iI z10)), (0, .ref b), (1, .int (iI 0)), (2, .ref (G.2.2 57)), (3, .ref (G.2.2 58))]) rfl dL_draws_152 hl rfl (by decide) rfl (fun ls hl => ?_)
          refine lv_goto (tgt := 16) X.1 X.2.1 dL_draws_155 (by decide) ?_
          have hl : lv_has ls 10 [(4, .int (iI (((n_ + 1) : Nat) : Int))), (8, .long (lI z16)), (6, .long (lI z15)), (5, .int (iI z10)), (0, .ref b), (1, .int (iI 0)), (2, .ref (G.2.2 57)), (3, .ref (G.2.2 58))] := by
            have e_ : (((n_ : Nat) : Int) + 1) = (((n_ + 1) : Nat) : Int) := (by omega)
            rw [← e_]; exact hl
          exact ih_16 (n_ + 1) S18 ((uf (uf (uf T (1 + ((n_ : Nat) : Int)) (1 + (z10 % 12))) (9 + ((n_ : Nat) : Int)) ((shr z10 8) % 4)) (20 + ((n_ : Nat) : Int)) 0)) ((uf Y ((n_ : Nat) : Int) z_)) (by omega) (by omega) (hA) (DR_s hD (by omega) (by omega) (by omega) hz_) (hF) (hF2) _ _ I ls (lv_sub hl [4, 5, 6, 7, 0] rfl)
        · skip
          refine lv_iload X.1 X.2.1 dL_draws_110 (lv_at hl 2 rfl) ?_
          refine ri_push X (v := 16) (by decide) dL_draws_112 ?_
          refine ri_shr X (by omega) (by omega) dL_draws_114 ?_
          have t19 := shr_r (a := z10) (k := 16) (by omega)
          refine ri_const X (v := 3) dL_draws_115 ?_
          refine ri_rem X (v := ((shr z10 16) % 3)) rfl (by omega) (by omega) dL_draws_116 ?_
          refine rz_ne (tgt := 139) X (by omega) dL_draws_117 (by decide) (fun c20 => ?_) (fun c20 => ?_)
          · skip
            refine lv_lload X.1 X.2.1 dL_draws_139 (lv_at hl 1 rfl) ?_
            refine lv_lload X.1 X.2.1 dL_draws_141 (lv_at hl 0 rfl) ?_
            refine ri_push X (v := 31) (by decide) dL_draws_143 ?_
            refine lv_lshl (v := ((lI z16) <<< ((iI 31).toInt64 &&& 63))) X.1 X.2.1 dL_draws_145 rfl ?_
            refine lv_lor X.1 X.2.1 dL_draws_146 ?_
            refine ri_ldc2 X (v := 68719476735) tb_490 rfl dL_draws_147 ?_
            refine rl_mask X dL_draws_150 (fun z_ hz_ => ?_)
            refine qL_lx X I (by omega) dL_draws_151 (fun H locs I => ?_)
            obtain ⟨S21, hS21⟩ : ∃ u_ : St, u_ = (ua S14.1 71 ((n_ : Nat) : Int) z_, S14.2) := ⟨_, rfl⟩
            rw [← hS21] at I
            have hA := AR_lx (z := ((n_ : Nat) : Int)) (v := z_) hA hS21
            have hF := fun (c_ : Nat) (i_ : Int) (z_ : c_ < 70) => (show S21.1 c_ i_ = S14.1 c_ i_ by rw [hS21]; exact ua_nc (by omega)).trans (hF c_ i_ z_)
            have hF2 : S21.2 = S.2 := (congrArg Prod.snd hS21).trans hF2
            refine ri_iinc X (k := 7) (v := (((n_ : Nat) : Int) + 1)) (lv' := [(4, .int (iI (((n_ : Nat) : Int) + 1))), (8, .long (lI z16)), (6, .long (lI z15)), (5, .int (iI z10)), (0, .ref b), (1, .int (iI 0)), (2, .ref (G.2.2 57)), (3, .ref (G.2.2 58))]) rfl dL_draws_152 hl rfl (by decide) rfl (fun ls hl => ?_)
            refine lv_goto (tgt := 16) X.1 X.2.1 dL_draws_155 (by decide) ?_
            have hl : lv_has ls 10 [(4, .int (iI (((n_ + 1) : Nat) : Int))), (8, .long (lI z16)), (6, .long (lI z15)), (5, .int (iI z10)), (0, .ref b), (1, .int (iI 0)), (2, .ref (G.2.2 57)), (3, .ref (G.2.2 58))] := by
              have e_ : (((n_ : Nat) : Int) + 1) = (((n_ + 1) : Nat) : Int) := (by omega)
              rw [← e_]; exact hl
            exact ih_16 (n_ + 1) S21 ((uf (uf (uf T (1 + ((n_ : Nat) : Int)) (1 + (z10 % 12))) (9 + ((n_ : Nat) : Int)) ((shr z10 8) % 4)) (20 + ((n_ : Nat) : Int)) 0)) ((uf Y ((n_ : Nat) : Int) z_)) (by omega) (by omega) (hA) (DR_s hD (by omega) (by omega) (by omega) hz_) (hF) (hF2) _ _ I ls (lv_sub hl [4, 5, 6, 7, 0] rfl)
          · skip
            refine lv_aload_n X.1 X.2.1 dL_draws_120 rfl (lv_at hl 6 rfl) ?_
            refine lv_iload X.1 X.2.1 dL_draws_121 (lv_at hl 7 rfl) ?_
            refine ri_const X (v := 1) dL_draws_123 ?_
            refine ri_sub X (v := (((n_ : Nat) : Int) - 1)) rfl dL_draws_124 ?_
            refine aL_lx X I (v := (Y (((n_ : Nat) : Int) - 1))) (hA.2.1 (((n_ : Nat) : Int) - 1)) (by omega) dL_draws_125 ?_
            refine ri_ldc2 X (v := 4095) tb_489 rfl dL_draws_126 ?_
            refine lv_land X.1 X.2.1 dL_draws_129 ?_
            refine lv_lload X.1 X.2.1 dL_draws_130 (lv_at hl 0 rfl) ?_
            refine ri_push X (v := 12) (by decide) dL_draws_132 ?_
            refine lv_lshl (v := ((lI z16) <<< ((iI 12).toInt64 &&& 63))) X.1 X.2.1 dL_draws_134 rfl ?_
            refine lv_lor X.1 X.2.1 dL_draws_135 ?_
            refine lv_goto (tgt := 147) X.1 X.2.1 dL_draws_136 (by decide) ?_
            refine ri_ldc2 X (v := 68719476735) tb_490 rfl dL_draws_147 ?_
            refine rl_mask X dL_draws_150 (fun z_ hz_ => ?_)
            refine qL_lx X I (by omega) dL_draws_151 (fun H locs I => ?_)
            obtain ⟨S22, hS22⟩ : ∃ u_ : St, u_ = (ua S14.1 71 ((n_ : Nat) : Int) z_, S14.2) := ⟨_, rfl⟩
            rw [← hS22] at I
            have hA := AR_lx (z := ((n_ : Nat) : Int)) (v := z_) hA hS22
            have hF := fun (c_ : Nat) (i_ : Int) (z_ : c_ < 70) => (show S22.1 c_ i_ = S14.1 c_ i_ by rw [hS22]; exact ua_nc (by omega)).trans (hF c_ i_ z_)
            have hF2 : S22.2 = S.2 := (congrArg Prod.snd hS22).trans hF2
            refine ri_iinc X (k := 7) (v := (((n_ : Nat) : Int) + 1)) (lv' := [(4, .int (iI (((n_ : Nat) : Int) + 1))), (8, .long (lI z16)), (6, .long (lI z15)), (5, .int (iI z10)), (0, .ref b), (1, .int (iI 0)), (2, .ref (G.2.2 57)), (3, .ref (G.2.2 58))]) rfl dL_draws_152 hl rfl (by decide) rfl (fun ls hl => ?_)
            refine lv_goto (tgt := 16) X.1 X.2.1 dL_draws_155 (by decide) ?_
            have hl : lv_has ls 10 [(4, .int (iI (((n_ + 1) : Nat) : Int))), (8, .long (lI z16)), (6, .long (lI z15)), (5, .int (iI z10)), (0, .ref b), (1, .int (iI 0)), (2, .ref (G.2.2 57)), (3, .ref (G.2.2 58))] := by
              have e_ : (((n_ : Nat) : Int) + 1) = (((n_ + 1) : Nat) : Int) := (by omega)
              rw [← e_]; exact hl
            exact ih_16 (n_ + 1) S22 ((uf (uf (uf T (1 + ((n_ : Nat) : Int)) (1 + (z10 % 12))) (9 + ((n_ : Nat) : Int)) ((shr z10 8) % 4)) (20 + ((n_ : Nat) : Int)) 0)) ((uf Y ((n_ : Nat) : Int) z_)) (by omega) (by omega) (hA) (DR_s hD (by omega) (by omega) (by omega) hz_) (hF) (hF2) _ _ I ls (lv_sub hl [4, 5, 6, 7, 0] rfl)
  have hl : lv_has ls 10 [(4, .int (iI ((0 : Nat) : Int))), (0, .ref b), (1, .int (iI 0)), (2, .ref (G.2.2 57)), (3, .ref (G.2.2 58))] := by
    have e_ : 0 = ((0 : Nat) : Int) := rfl
    rw [← e_]; exact hl
  exact lp_16 (10) 0 S2 ((uf T 0 (1 + (z1 % 8)))) (Y) (by omega) (by omega) (hA) (⟨by rw [uf_eq]; omega, fun i_ a_ b_ => absurd b_ (by omega)⟩) (hF) (hF2) _ _ I ls (lv_sub hl [1, 2, 3, 4, 0] rfl)
