/-! the text of the class's first names, a String constant: its length, its chars, by the JDK's own methods -/
def txL : List Int := [115, 48, 44, 111, 112, 101, 110, 70, 105, 108, 101, 59, 115, 48, 44, 111, 112, 101, 110, 95, 102, 105, 108, 101, 59, 115, 49, 44, 79, 112, 101, 110, 70, 111, 108, 105, 111, 59, 115, 50, 44, 108, 97, 115, 116, 79, 112, 101, 110, 101, 100, 59, 115, 51, 44, 102, 105, 110, 100, 95, 79, 102, 59, 115, 48, 44, 112, 111, 111, 102, 59, 119, 52, 44, 51, 44, 49, 59]
def tx (j : Int) : Int := txL.getD j.toNat 0
theorem tx_r : ∀ k : Nat, k < 78 → (32 ≤ tx k ∧ tx k ≤ 126) ∧ band (tx k) 255 = tx k := by decide +kernel
def SA (A : Nat → Prop) (kS vS : Nat) (U : State) (H : Heap) : Prop := va_O "java/lang/String" kS A U H ∧ va_OF "java/lang/String" "coder" "B" (.int (iI 0)) kS A U H ∧ va_OF "java/lang/String" "value" "[B" (.ref vS) kS A U H ∧ va_T .byte vS 78 (fun j => .int (iI (tx j))) A U H ∧ va_Z "java/lang/String" "COMPACT_STRINGS" "Z" (.int (iI 1)) A U H ∧ va_Zq "jdk/internal/util/Preconditions" "SIOOBE_FORMATTER" "Ljava/util/function/BiFunction;" A U H
theorem SA.moved {A : Nat → Prop} {kS vS : Nat} {u U : State} {H : Heap} (h : u.vm.Alike U.vm) (q : SA A kS vS u H) : SA A kS vS U H := ⟨va_O.moved h q.1, va_OF.moved h q.2.1, va_OF.moved h q.2.2.1, va_T.moved h q.2.2.2.1, va_Z.moved h q.2.2.2.2.1, va_Zq.moved h q.2.2.2.2.2⟩
theorem SA.kept {A : Nat → Prop} {kS vS : Nat} {U : State} {H H1 : Heap} (q : SA A kS vS U H) (h : ∀ a : Nat, a < H.size → ¬ A a → H1[a]? = H[a]?) : SA A kS vS U H1 := ⟨q.1.kept h, q.2.1.kept h, q.2.2.1.kept h, q.2.2.2.1.kept h, q.2.2.2.2.1.kept h, q.2.2.2.2.2.kept h⟩
theorem SA.narrow {A B : Nat → Prop} {kS vS : Nat} {U : State} {H : Heap} (q : SA A kS vS U H) (h : ∀ a, B a → A a) : SA B kS vS U H := ⟨q.1.narrow h, q.2.1.narrow h, q.2.2.1.narrow h, q.2.2.2.1.narrow h, q.2.2.2.2.1.narrow h, q.2.2.2.2.2.narrow h⟩
abbrev nA : Nat → Prop := fun _ => False
abbrev PS (kS vS : Nat) : State → Prop := fun U => SA nA kS vS U U.heap
theorem PS.blind {av : List Value} {kS vS : Nat} : FrameBlind (va_Pc av (PS kS vS)) := fun a U g mk q => ⟨q.1, SA.moved (u := U) (U := U.calling g mk a) (Vm.Alike.refl U.vm) q.2⟩
theorem PS.pre {s : State} {H : Heap} {As : List Value} {kS vS : Nat} (h : SA nA kS vS s H) : PreS s H (va_Pc As (PS kS vS)) As := ⟨PS.blind, fun U hU hW => ⟨rfl, by show SA nA kS vS U U.heap; rw [hU]; exact SA.moved hW.alike h⟩⟩
theorem PS.preV {s : State} {H : Heap} {As : List Value} {kS vS : Nat} (h : SA nA kS vS s H) : PreV s H "java/lang/String" kS (va_Pc (.ref kS :: As) (PS kS vS)) As := ⟨PS.blind, by obtain ⟨cell, h1, h2, h3, -⟩ := h.1; exact ⟨cell, h1, h2, h3⟩, fun U hU hW => ⟨rfl, by show SA nA kS vS U U.heap; rw [hU]; exact SA.moved hW.alike h⟩⟩
abbrev QS (post : Int → Prop) : Array Value → State → Outcome → State → Prop := vp_Si (fun r => ∃ z, r = iI z ∧ post z)
theorem S_start {P : State → Prop} {l : Launch} {y : MethodName} {cc : ByteArray} {n : Nat} {ret : Option FieldType} {rm : Room} {av : List Value} {own : String} {Qc : Array Value → State → Outcome → State → Prop} (hy : plainName y.cls = true) (hc : y.cls = own) (hn : (lg_sl av).length ≤ n)
    (body : ∀ (p : Program) (e : Env) (s : State) (m : MethodId) (args : Array Value) (below : List Frame) (meth : Method) (c : Code), CallFix p m c cc n s args TB own → meth.sig.returnType = ret → meth.locks = false → P s → ∀ ls : Array Slot, lv_has ls n (lv_args 0 av) →
      W p l e rm s m args below meth c s.heap [] 0 0 (MQ below Qc args s 0 0 nA) (F0 m 0 ls [])) : Met l y (.code y cc n ret :: TB) rm (va_Pc av P) Qc 0 0 nA := by
  refine Met.ofW (cc := cc) (maxL := n) (ret := ret) hy rfl ?_
  intro p e s m args below meth c s₁ B hml hv
  obtain ⟨rfl, hP⟩ := hv
  have hts := atoms_spec (ws := .code y cc n ret :: TB) B.pre
  have hown : s.vm.findClass y.cls = some m.cls := findClass_of_methodNamed B.named
  rw [hc] at hown
  rw [lg_entry_eq]
  exact body p e s m _ below meth c ⟨B.exec, B.bytes, hml, hown, fun w h => hts w (List.mem_cons_of_mem _ h)⟩ B.returns B.notSynchronized hP _ (lv_entry av hn)
section SROWS
variable {p : Program} {l : Launch} {e : Env} {R : Room} {s : State} {m : MethodId} {args : Array Value} {below : List Frame} {meth : Method} {c : Code} {H : Heap} {locs : List Loc} {cells slots : Nat} {Q : State → Prop}
variable {cc : ByteArray} {pc nL : Nat} {ls : Array Slot} {rest : List Value} {own : String}
variable {y : MethodName} {bytes : ByteArray} {maxL index n : Nat} {rm : Room} {b : Nat} {As : List Value} {st : List Value}
theorem st_i {post : Int → Prop} {v : Int} {ret : FieldType} (X : CallFix p m c cc nL s args TB own) (hr : meth.sig.returnType = some ret) (hlk : meth.locks = false) (hn : narrow ret (.int (iI v)) = .int (iI v)) (hq : post v) (hdg : decode cc pc = .ok (.ireturn, 1)) : W p l e R s m args below meth c s.heap [] cells slots (MQ below (QS post) args s cells slots nA) (F0 m pc ls [.int (iI v)]) :=
  W.zret (v := iI v) X.1 X.2.1 hr hn (fun t ht hW => ⟨iI v, rfl, ⟨v, rfl, hq⟩, ht⟩) (fun q h => by cases h) hdg hlk
theorem cs_i {post : Int → Prop} {aa : Array Value} (hr : CallRun p l e R s m args below meth c H locs cells slots 0 0 (F0 m pc ls st) rest (QS post aa) nA) (kk : ∀ z : Int, post z → W p l e R s m args below meth c H locs cells slots Q (F0 m (pc + 3) ls (.int (iI z) :: rest))) : W p l e R s m args below meth c H locs cells slots Q (F0 m pc ls st) :=
  vp_callSi hr (fun r ⟨z, e1, h⟩ => by subst e1; exact kk z h)
theorem crS {Pc : Array Value → State → Prop} {Qc : Array Value → State → Outcome → State → Prop} {free : Addr → Prop} {ret : Option FieldType} (X : CallFix p m c cc nL s args TB own) (hM : Met l y (.code y bytes maxL ret :: TB) rm Pc Qc 0 0 free) (hw : GoodIn TB (.code y bytes maxL ret :: TB)) (hlk : Cond.methodLink own index y ∈ TB) (hst2 : Cond.static y ∈ TB) (hini : Cond.initialized y.cls ∈ TB) (ho : cOk y n maxL rm R) (hp : PreS s H Pc As) (hn : As.length = n) (hl : ls.size = nL) (hst : st = As.reverse ++ rest) (hW : (rest.map fun v => v.category).sum ≤ 8) (hdg : decode cc pc = .ok (.invokestatic index, 3)) (hf : cells + 0 ≤ R.cells ∧ slots + 0 ≤ R.slots) :
    CallRun p l e R s m args below meth c H locs cells slots 0 0 (F0 m pc ls st) rest (Qc As.toArray) free :=
  W.runS X hM ⟨callB_of n X.2.2.2.2 hw rfl ho.2.2.1 ho.2.2.2 (X.2.2.2.2 _ hini) (X.2.2.2.2 _ hlk) ho.1 ho.2.1, X.2.2.2.2 _ hst2⟩ hp rfl hn hl hst (lv_room hW) hdg hf
theorem crV {Pc : Array Value → State → Prop} {Qc : Array Value → State → Outcome → State → Prop} {free : Addr → Prop} {ret : Option FieldType} (X : CallFix p m c cc nL s args TB own) (hM : Met l y (.code y bytes maxL ret :: TB) rm Pc Qc 0 0 free) (hw : GoodIn TB (wsV own index y.cls y (.code y bytes maxL ret :: TB))) (ho : cOk y n maxL rm R) (hp : PreV s H y.cls b Pc As) (hn : As.length = n) (hl : ls.size = nL) (hst : st = As.reverse ++ .ref b :: rest) (hW : (rest.map fun v => v.category).sum ≤ 8) (hdg : decode cc pc = .ok (.invokevirtual index, 3)) (hf : cells + 0 ≤ R.cells ∧ slots + 0 ≤ R.slots) :
    CallRun p l e R s m args below meth c H locs cells slots 0 0 (F0 m pc ls st) rest (Qc (Value.ref b :: As).toArray) free :=
  W.runV X hM (cwV n X.2.2.2.2 hw rfl ho.2.2.1 ho.2.2.2 ⟨rfl, ho.1⟩ ho.2.1) hp rfl hn hl hst (lv_room hW) hdg hf
end SROWS
set_option maxRecDepth 100000 in
theorem tb_24 : (Jvm.Cond.initialized "java/lang/String") ∈ TB := tbI 24 rfl rfl
set_option maxRecDepth 100000 in
theorem tb_25 : (Jvm.Cond.initialized "java/lang/StringLatin1") ∈ TB := tbI 25 rfl rfl
set_option maxRecDepth 100000 in
theorem tb_26 : (Jvm.Cond.initialized "jdk/internal/util/Preconditions") ∈ TB := tbI 26 rfl rfl
set_option maxRecDepth 100000 in
theorem tb_239 : (Jvm.Cond.methodLink "java/lang/String" (335 : Nat) ({ cls := "java/lang/String", name := "coder", desc := "()B" } : Jvm.MethodName)) ∈ TB := tbI 239 rfl rfl
set_option maxRecDepth 100000 in
theorem tb_240 : (Jvm.Cond.instanceMethod ({ cls := "java/lang/String", name := "coder", desc := "()B" } : Jvm.MethodName)) ∈ TB := tbI 240 rfl rfl
set_option maxRecDepth 100000 in
theorem tb_241 : (Jvm.Cond.selects "java/lang/String" ({ cls := "java/lang/String", name := "coder", desc := "()B" } : Jvm.MethodName) ({ cls := "java/lang/String", name := "coder", desc := "()B" } : Jvm.MethodName)) ∈ TB := tbI 241 rfl rfl
set_option maxRecDepth 100000 in
theorem tb_242 : (Jvm.Cond.code ({ cls := "java/lang/String", name := "coder", desc := "()B" } : Jvm.MethodName) prog_14_method_152_code (1 : Nat) (Option.some Jvm.ClassFile.FieldType.byte)) ∈ TB := tbI 242 rfl rfl
set_option maxRecDepth 100000 in
theorem tb_243 : (Jvm.Cond.fieldLink "java/lang/String" (38 : Nat) "java/lang/String" "COMPACT_STRINGS" "Z") ∈ TB := tbI 243 rfl rfl
set_option maxRecDepth 100000 in
theorem tb_249 : (Jvm.Cond.methodLink "java/lang/String" (492 : Nat) ({ cls := "java/lang/String", name := "isLatin1", desc := "()Z" } : Jvm.MethodName)) ∈ TB := tbI 249 rfl rfl
set_option maxRecDepth 100000 in
theorem tb_250 : (Jvm.Cond.instanceMethod ({ cls := "java/lang/String", name := "isLatin1", desc := "()Z" } : Jvm.MethodName)) ∈ TB := tbI 250 rfl rfl
set_option maxRecDepth 100000 in
theorem tb_251 : (Jvm.Cond.selects "java/lang/String" ({ cls := "java/lang/String", name := "isLatin1", desc := "()Z" } : Jvm.MethodName) ({ cls := "java/lang/String", name := "isLatin1", desc := "()Z" } : Jvm.MethodName)) ∈ TB := tbI 251 rfl rfl
set_option maxRecDepth 100000 in
theorem tb_252 : (Jvm.Cond.code ({ cls := "java/lang/String", name := "isLatin1", desc := "()Z" } : Jvm.MethodName) prog_14_method_154_code (1 : Nat) (Option.some Jvm.ClassFile.FieldType.boolean)) ∈ TB := tbI 252 rfl rfl
set_option maxRecDepth 100000 in
theorem tb_253 : (Jvm.Cond.methodLink "java/lang/String" (495 : Nat) ({ cls := "java/lang/StringLatin1", name := "charAt", desc := "([BI)C" } : Jvm.MethodName)) ∈ TB := tbI 253 rfl rfl
set_option maxRecDepth 100000 in
theorem tb_254 : (Jvm.Cond.static ({ cls := "java/lang/StringLatin1", name := "charAt", desc := "([BI)C" } : Jvm.MethodName)) ∈ TB := tbI 254 rfl rfl
set_option maxRecDepth 100000 in
theorem tb_255 : (Jvm.Cond.code ({ cls := "java/lang/StringLatin1", name := "charAt", desc := "([BI)C" } : Jvm.MethodName) prog_15_method_2_code (2 : Nat) (Option.some Jvm.ClassFile.FieldType.char)) ∈ TB := tbI 255 rfl rfl
set_option maxRecDepth 100000 in
theorem tb_256 : (Jvm.Cond.methodLink "java/lang/StringLatin1" (9 : Nat) ({ cls := "java/lang/String", name := "checkIndex", desc := "(II)V" } : Jvm.MethodName)) ∈ TB := tbI 256 rfl rfl
set_option maxRecDepth 100000 in
theorem tb_257 : (Jvm.Cond.static ({ cls := "java/lang/String", name := "checkIndex", desc := "(II)V" } : Jvm.MethodName)) ∈ TB := tbI 257 rfl rfl
set_option maxRecDepth 100000 in
theorem tb_258 : (Jvm.Cond.code ({ cls := "java/lang/String", name := "checkIndex", desc := "(II)V" } : Jvm.MethodName) prog_14_method_155_code (2 : Nat) (Option.none : Option Jvm.ClassFile.FieldType)) ∈ TB := tbI 258 rfl rfl
set_option maxRecDepth 100000 in
theorem tb_259 : (Jvm.Cond.fieldLink "java/lang/String" (1053 : Nat) "jdk/internal/util/Preconditions" "SIOOBE_FORMATTER" "Ljava/util/function/BiFunction;") ∈ TB := tbI 259 rfl rfl
set_option maxRecDepth 100000 in
theorem tb_261 : (Jvm.Cond.methodLink "java/lang/String" (1059 : Nat) ({ cls := "jdk/internal/util/Preconditions", name := "checkIndex", desc := "(IILjava/util/function/BiFunction;)I" } : Jvm.MethodName)) ∈ TB := tbI 261 rfl rfl
set_option maxRecDepth 100000 in
theorem tb_262 : (Jvm.Cond.static ({ cls := "jdk/internal/util/Preconditions", name := "checkIndex", desc := "(IILjava/util/function/BiFunction;)I" } : Jvm.MethodName)) ∈ TB := tbI 262 rfl rfl
set_option maxRecDepth 100000 in
theorem tb_263 : (Jvm.Cond.code ({ cls := "jdk/internal/util/Preconditions", name := "checkIndex", desc := "(IILjava/util/function/BiFunction;)I" } : Jvm.MethodName) prog_17_method_11_code (3 : Nat) (Option.some Jvm.ClassFile.FieldType.int)) ∈ TB := tbI 263 rfl rfl
set_option maxRecDepth 100000 in
theorem tb_667 : (Jvm.Cond.fieldLink "java/lang/String" (9 : Nat) "java/lang/String" "value" "[B") ∈ TB := tbI 667 rfl rfl
set_option maxRecDepth 100000 in
theorem tb_668 : (Jvm.Cond.fieldLink "java/lang/String" (15 : Nat) "java/lang/String" "coder" "B") ∈ TB := tbI 668 rfl rfl
theorem dJ3_checkIndex_8e157_0 : decode cJ3_checkIndex_8e157 0 = .ok (.iload_n 0, 1) := by decide +kernel
theorem dJ3_checkIndex_8e157_1 : decode cJ3_checkIndex_8e157 1 = .ok (.ifCond .lt 8, 3) := by decide +kernel
theorem dJ3_checkIndex_8e157_4 : decode cJ3_checkIndex_8e157 4 = .ok (.iload_n 0, 1) := by decide +kernel
theorem dJ3_checkIndex_8e157_5 : decode cJ3_checkIndex_8e157 5 = .ok (.iload_n 1, 1) := by decide +kernel
theorem dJ3_checkIndex_8e157_6 : decode cJ3_checkIndex_8e157 6 = .ok (.if_icmp .lt 10, 3) := by decide +kernel
theorem dJ3_checkIndex_8e157_9 : decode cJ3_checkIndex_8e157 9 = .ok (.aload_n 2, 1) := by decide +kernel
theorem dJ3_checkIndex_8e157_10 : decode cJ3_checkIndex_8e157 10 = .ok (.iload_n 0, 1) := by decide +kernel
theorem dJ3_checkIndex_8e157_11 : decode cJ3_checkIndex_8e157 11 = .ok (.iload_n 1, 1) := by decide +kernel
theorem dJ3_checkIndex_8e157_12 : decode cJ3_checkIndex_8e157 12 = .ok (.invokestatic 95, 3) := by decide +kernel
theorem dJ3_checkIndex_8e157_15 : decode cJ3_checkIndex_8e157 15 = .ok (.athrow, 1) := by decide +kernel
theorem dJ3_checkIndex_8e157_16 : decode cJ3_checkIndex_8e157 16 = .ok (.iload_n 0, 1) := by decide +kernel
theorem dJ3_checkIndex_8e157_17 : decode cJ3_checkIndex_8e157 17 = .ok (.ireturn, 1) := by decide +kernel
theorem dJ0_checkIndex_df160_0 : decode cJ0_checkIndex_df160 0 = .ok (.iload_n 0, 1) := by decide +kernel
theorem dJ0_checkIndex_df160_1 : decode cJ0_checkIndex_df160 1 = .ok (.iload_n 1, 1) := by decide +kernel
theorem dJ0_checkIndex_df160_2 : decode cJ0_checkIndex_df160 2 = .ok (.getstatic 1053, 3) := by decide +kernel
theorem dJ0_checkIndex_df160_5 : decode cJ0_checkIndex_df160 5 = .ok (.invokestatic 1059, 3) := by decide +kernel
theorem dJ0_checkIndex_df160_8 : decode cJ0_checkIndex_df160 8 = .ok (.pop, 1) := by decide +kernel
theorem dJ0_checkIndex_df160_9 : decode cJ0_checkIndex_df160 9 = .ok (.return_, 1) := by decide +kernel
theorem dJ1_charAt_3b067_0 : decode cJ1_charAt_3b067 0 = .ok (.iload_n 1, 1) := by decide +kernel
theorem dJ1_charAt_3b067_1 : decode cJ1_charAt_3b067 1 = .ok (.aload_n 0, 1) := by decide +kernel
theorem dJ1_charAt_3b067_2 : decode cJ1_charAt_3b067 2 = .ok (.arraylength, 1) := by decide +kernel
theorem dJ1_charAt_3b067_3 : decode cJ1_charAt_3b067 3 = .ok (.invokestatic 9, 3) := by decide +kernel
theorem dJ1_charAt_3b067_6 : decode cJ1_charAt_3b067 6 = .ok (.aload_n 0, 1) := by decide +kernel
theorem dJ1_charAt_3b067_7 : decode cJ1_charAt_3b067 7 = .ok (.iload_n 1, 1) := by decide +kernel
theorem dJ1_charAt_3b067_8 : decode cJ1_charAt_3b067 8 = .ok (.baload, 1) := by decide +kernel
theorem dJ1_charAt_3b067_9 : decode cJ1_charAt_3b067 9 = .ok (.sipush 255, 3) := by decide +kernel
theorem dJ1_charAt_3b067_12 : decode cJ1_charAt_3b067 12 = .ok (.iand, 1) := by decide +kernel
theorem dJ1_charAt_3b067_13 : decode cJ1_charAt_3b067 13 = .ok (.i2c, 1) := by decide +kernel
theorem dJ1_charAt_3b067_14 : decode cJ1_charAt_3b067 14 = .ok (.ireturn, 1) := by decide +kernel
theorem dJ0_isLatin1_aae02_0 : decode cJ0_isLatin1_aae02 0 = .ok (.getstatic 38, 3) := by decide +kernel
theorem dJ0_isLatin1_aae02_3 : decode cJ0_isLatin1_aae02 3 = .ok (.ifCond .eq 14, 3) := by decide +kernel
theorem dJ0_isLatin1_aae02_6 : decode cJ0_isLatin1_aae02 6 = .ok (.aload_n 0, 1) := by decide +kernel
theorem dJ0_isLatin1_aae02_7 : decode cJ0_isLatin1_aae02 7 = .ok (.getfield 15, 3) := by decide +kernel
theorem dJ0_isLatin1_aae02_10 : decode cJ0_isLatin1_aae02 10 = .ok (.ifCond .ne 7, 3) := by decide +kernel
theorem dJ0_isLatin1_aae02_13 : decode cJ0_isLatin1_aae02 13 = .ok (.iconst 1, 1) := by decide +kernel
theorem dJ0_isLatin1_aae02_14 : decode cJ0_isLatin1_aae02 14 = .ok (.goto 4, 3) := by decide +kernel
theorem dJ0_isLatin1_aae02_17 : decode cJ0_isLatin1_aae02 17 = .ok (.iconst 0, 1) := by decide +kernel
theorem dJ0_isLatin1_aae02_18 : decode cJ0_isLatin1_aae02 18 = .ok (.ireturn, 1) := by decide +kernel
theorem dJ0_charAt_5068e_0 : decode cJ0_charAt_5068e 0 = .ok (.aload_n 0, 1) := by decide +kernel
theorem dJ0_charAt_5068e_1 : decode cJ0_charAt_5068e 1 = .ok (.invokevirtual 492, 3) := by decide +kernel
theorem dJ0_charAt_5068e_4 : decode cJ0_charAt_5068e 4 = .ok (.ifCond .eq 12, 3) := by decide +kernel
theorem dJ0_charAt_5068e_7 : decode cJ0_charAt_5068e 7 = .ok (.aload_n 0, 1) := by decide +kernel
theorem dJ0_charAt_5068e_8 : decode cJ0_charAt_5068e 8 = .ok (.getfield 9, 3) := by decide +kernel
theorem dJ0_charAt_5068e_11 : decode cJ0_charAt_5068e 11 = .ok (.iload_n 1, 1) := by decide +kernel
theorem dJ0_charAt_5068e_12 : decode cJ0_charAt_5068e 12 = .ok (.invokestatic 495, 3) := by decide +kernel
theorem dJ0_charAt_5068e_15 : decode cJ0_charAt_5068e 15 = .ok (.ireturn, 1) := by decide +kernel
theorem dJ0_charAt_5068e_16 : decode cJ0_charAt_5068e 16 = .ok (.aload_n 0, 1) := by decide +kernel
theorem dJ0_charAt_5068e_17 : decode cJ0_charAt_5068e 17 = .ok (.getfield 9, 3) := by decide +kernel
theorem dJ0_charAt_5068e_20 : decode cJ0_charAt_5068e 20 = .ok (.iload_n 1, 1) := by decide +kernel
theorem dJ0_charAt_5068e_21 : decode cJ0_charAt_5068e 21 = .ok (.invokestatic 498, 3) := by decide +kernel
theorem dJ0_charAt_5068e_24 : decode cJ0_charAt_5068e 24 = .ok (.ireturn, 1) := by decide +kernel
theorem dJ0_coder_7d493_0 : decode cJ0_coder_7d493 0 = .ok (.getstatic 38, 3) := by decide +kernel
theorem dJ0_coder_7d493_3 : decode cJ0_coder_7d493 3 = .ok (.ifCond .eq 10, 3) := by decide +kernel
theorem dJ0_coder_7d493_6 : decode cJ0_coder_7d493 6 = .ok (.aload_n 0, 1) := by decide +kernel
theorem dJ0_coder_7d493_7 : decode cJ0_coder_7d493 7 = .ok (.getfield 15, 3) := by decide +kernel
theorem dJ0_coder_7d493_10 : decode cJ0_coder_7d493 10 = .ok (.goto 4, 3) := by decide +kernel
theorem dJ0_coder_7d493_13 : decode cJ0_coder_7d493 13 = .ok (.iconst 1, 1) := by decide +kernel
theorem dJ0_coder_7d493_14 : decode cJ0_coder_7d493 14 = .ok (.ireturn, 1) := by decide +kernel
theorem dJ0_length_8abf5_0 : decode cJ0_length_8abf5 0 = .ok (.aload_n 0, 1) := by decide +kernel
theorem dJ0_length_8abf5_1 : decode cJ0_length_8abf5 1 = .ok (.getfield 9, 3) := by decide +kernel
theorem dJ0_length_8abf5_4 : decode cJ0_length_8abf5 4 = .ok (.arraylength, 1) := by decide +kernel
theorem dJ0_length_8abf5_5 : decode cJ0_length_8abf5 5 = .ok (.aload_n 0, 1) := by decide +kernel
theorem dJ0_length_8abf5_6 : decode cJ0_length_8abf5 6 = .ok (.invokevirtual 335, 3) := by decide +kernel
theorem dJ0_length_8abf5_9 : decode cJ0_length_8abf5 9 = .ok (.ishr, 1) := by decide +kernel
theorem dJ0_length_8abf5_10 : decode cJ0_length_8abf5 10 = .ok (.ireturn, 1) := by decide +kernel
theorem ok_J3_checkIndex_8e157 : yJ3_checkIndex_8e157.cls ≠ "java/lang/invoke/MethodHandle" ∧ yJ3_checkIndex_8e157.cls ≠ "java/lang/invoke/VarHandle" ∧ (parseMethodDescriptor yJ3_checkIndex_8e157.desc).map (fun d => d.parameters.length) = some 3 := ⟨by decide +kernel, by decide +kernel, by decide +kernel⟩
abbrev rm_J3_checkIndex_8e157 : Room := ({ frames := 0, cells := 0, slots := 0, locals := 0 } : Room)
theorem ok_J0_checkIndex_df160 : yJ0_checkIndex_df160.cls ≠ "java/lang/invoke/MethodHandle" ∧ yJ0_checkIndex_df160.cls ≠ "java/lang/invoke/VarHandle" ∧ (parseMethodDescriptor yJ0_checkIndex_df160.desc).map (fun d => d.parameters.length) = some 2 := ⟨by decide +kernel, by decide +kernel, by decide +kernel⟩
abbrev rm_J0_checkIndex_df160 : Room := ({ frames := 1, cells := 0, slots := 0, locals := 22 } : Room)
theorem ok_J1_charAt_3b067 : yJ1_charAt_3b067.cls ≠ "java/lang/invoke/MethodHandle" ∧ yJ1_charAt_3b067.cls ≠ "java/lang/invoke/VarHandle" ∧ (parseMethodDescriptor yJ1_charAt_3b067.desc).map (fun d => d.parameters.length) = some 2 := ⟨by decide +kernel, by decide +kernel, by decide +kernel⟩
abbrev rm_J1_charAt_3b067 : Room := ({ frames := 2, cells := 0, slots := 0, locals := 43 } : Room)
theorem ok_J0_isLatin1_aae02 : yJ0_isLatin1_aae02.cls ≠ "java/lang/invoke/MethodHandle" ∧ yJ0_isLatin1_aae02.cls ≠ "java/lang/invoke/VarHandle" ∧ (parseMethodDescriptor yJ0_isLatin1_aae02.desc).map (fun d => d.parameters.length) = some 0 := ⟨by decide +kernel, by decide +kernel, by decide +kernel⟩
abbrev rm_J0_isLatin1_aae02 : Room := ({ frames := 0, cells := 0, slots := 0, locals := 0 } : Room)
theorem ok_J0_charAt_5068e : yJ0_charAt_5068e.cls ≠ "java/lang/invoke/MethodHandle" ∧ yJ0_charAt_5068e.cls ≠ "java/lang/invoke/VarHandle" ∧ (parseMethodDescriptor yJ0_charAt_5068e.desc).map (fun d => d.parameters.length) = some 1 := ⟨by decide +kernel, by decide +kernel, by decide +kernel⟩
abbrev rm_J0_charAt_5068e : Room := ({ frames := 3, cells := 0, slots := 0, locals := 64 } : Room)
theorem ok_J0_coder_7d493 : yJ0_coder_7d493.cls ≠ "java/lang/invoke/MethodHandle" ∧ yJ0_coder_7d493.cls ≠ "java/lang/invoke/VarHandle" ∧ (parseMethodDescriptor yJ0_coder_7d493.desc).map (fun d => d.parameters.length) = some 0 := ⟨by decide +kernel, by decide +kernel, by decide +kernel⟩
abbrev rm_J0_coder_7d493 : Room := ({ frames := 0, cells := 0, slots := 0, locals := 0 } : Room)
theorem ok_J0_length_8abf5 : yJ0_length_8abf5.cls ≠ "java/lang/invoke/MethodHandle" ∧ yJ0_length_8abf5.cls ≠ "java/lang/invoke/VarHandle" ∧ (parseMethodDescriptor yJ0_length_8abf5.desc).map (fun d => d.parameters.length) = some 0 := ⟨by decide +kernel, by decide +kernel, by decide +kernel⟩
abbrev rm_J0_length_8abf5 : Room := ({ frames := 1, cells := 0, slots := 0, locals := 20 } : Room)
set_option maxRecDepth 100000 in
set_option maxHeartbeats 4000000 in
theorem k_J3_checkIndex_8e157 (l : Launch) (kS vS : Nat) (j : Nat) (hj : j < 78) (w : Value) (hw : w = .null ∨ ∃ t : Nat, w = .ref t) : Met l yJ3_checkIndex_8e157 (.code yJ3_checkIndex_8e157 cJ3_checkIndex_8e157 3 (some .int) :: TB) rm_J3_checkIndex_8e157 (va_Pc [.int (iI j), .int (iI 78), w] (PS kS vS)) (QS (fun r => True)) 0 0 nA := by
  refine S_start (own := "jdk/internal/util/Preconditions") (by decide +kernel) rfl (by rcases hw with rfl | ⟨t, rfl⟩ <;> exact Nat.le_of_ble_eq_true rfl) ?_
  intro p e s m args below meth c X hr hlk hP ls hl
  have hS : va_S nA s.heap s.heap [] := va_S.rf
  obtain ⟨hO, hC, hV, hT, hZ, hF⟩ := id hP
  have hl : lv_has ls 3 [(0, .int (iI j)), (1, .int (iI 78)), (2, w)] := by rcases hw with rfl | ⟨t, rfl⟩ <;> exact hl
  refine lv_iload_n X.1 X.2.1 dJ3_checkIndex_8e157_0 rfl (lv_at hl 0 rfl) ?_
  refine rz_lt (tgt := 9) X (by omega) dJ3_checkIndex_8e157_1 (by decide) (fun q => absurd q (by omega)) (fun _ => ?_)
  refine lv_iload_n X.1 X.2.1 dJ3_checkIndex_8e157_4 rfl (lv_at hl 0 rfl) ?_
  refine lv_iload_n X.1 X.2.1 dJ3_checkIndex_8e157_5 rfl (lv_at hl 1 rfl) ?_
  refine rj_lt (tgt := 16) X (by omega) (by omega) dJ3_checkIndex_8e157_6 (by decide) (fun _ => ?_) (fun q => absurd q (by omega))
  refine lv_iload_n X.1 X.2.1 dJ3_checkIndex_8e157_16 rfl (lv_at hl 0 rfl) ?_
  exact st_i X hr hlk rfl trivial dJ3_checkIndex_8e157_17
set_option maxRecDepth 100000 in
set_option maxHeartbeats 4000000 in
theorem k_J0_checkIndex_df160 (l : Launch) (kS vS : Nat) (j : Nat) (hj : j < 78) : Met l yJ0_checkIndex_df160 (.code yJ0_checkIndex_df160 cJ0_checkIndex_df160 2 none :: TB) rm_J0_checkIndex_df160 (va_Pc [.int (iI j), .int (iI 78)] (PS kS vS)) (va_Sv (fun _ => True)) 0 0 nA := by
  refine S_start (own := "java/lang/String") (by decide +kernel) rfl (Nat.le_of_ble_eq_true rfl) ?_
  intro p e s m args below meth c X hr hlk hP ls hl
  have hS : va_S nA s.heap s.heap [] := va_S.rf
  obtain ⟨hO, hC, hV, hT, hZ, hF⟩ := id hP
  have hl : lv_has ls 2 [(0, .int (iI j)), (1, .int (iI 78))] := hl
  refine lv_iload_n X.1 X.2.1 dJ0_checkIndex_df160_0 rfl (lv_at hl 0 rfl) ?_
  refine lv_iload_n X.1 X.2.1 dJ0_checkIndex_df160_1 rfl (lv_at hl 1 rfl) ?_
  have key : ∀ w : Value, (w = .null ∨ ∃ t : Nat, w = .ref t) → W p l e rm_J0_checkIndex_df160 s m args below meth c s.heap [] 0 0 (MQ below (va_Sv (fun _ => True)) args s 0 0 nA) (F0 m 5 ls [w, .int (iI 78), .int (iI j)]) := by
    intro w hw
    refine cs_i (crS (As := [.int (iI j), .int (iI 78), w]) (rest := []) X (k_J3_checkIndex_8e157 l kS vS j hj w hw) (gdC tb_263 gdB) tb_261 tb_262 tb_26 ⟨ok_J3_checkIndex_8e157, ⟨Nat.le_of_ble_eq_true rfl, Nat.le_of_ble_eq_true rfl⟩, rfl, rfl⟩ (PS.pre hP) rfl hl.1 rfl (Nat.le_of_ble_eq_true rfl) dJ0_checkIndex_df160_5 ⟨Nat.zero_le _, Nat.zero_le _⟩) (fun z _ => ?_)
    refine lv_pop X.1 X.2.1 dJ0_checkIndex_df160_8 rfl ?_
    exact W.vret X.1 X.2.1 hr (fun t ht hW => ⟨rfl, trivial, ht⟩) (fun q h => by cases h) dJ0_checkIndex_df160_9 hlk
  rcases hF with h | ⟨t, h⟩
  · exact va_gets (v := .null) X.1 X.2.1 h hS X.2.2.2.1 (X.2.2.2.2 _ tb_259) (fun _ h => h) dJ0_checkIndex_df160_2 (key _ (Or.inl rfl))
  · exact va_gets (v := .ref t) X.1 X.2.1 h hS X.2.2.2.1 (X.2.2.2.2 _ tb_259) (fun _ h => h) dJ0_checkIndex_df160_2 (key _ (Or.inr ⟨t, rfl⟩))
set_option maxRecDepth 100000 in
set_option maxHeartbeats 4000000 in
theorem k_J1_charAt_3b067 (l : Launch) (kS vS : Nat) (j : Nat) (hj : j < 78) : Met l yJ1_charAt_3b067 (.code yJ1_charAt_3b067 cJ1_charAt_3b067 2 (some .char) :: TB) rm_J1_charAt_3b067 (va_Pc [.ref vS, .int (iI j)] (PS kS vS)) (QS (fun r => r = tx j)) 0 0 nA := by
  refine S_start (own := "java/lang/StringLatin1") (by decide +kernel) rfl (Nat.le_of_ble_eq_true rfl) ?_
  intro p e s m args below meth c X hr hlk hP ls hl
  have hS : va_S nA s.heap s.heap [] := va_S.rf
  obtain ⟨hO, hC, hV, hT, hZ, hF⟩ := id hP
  have hl : lv_has ls 2 [(0, .ref vS), (1, .int (iI j))] := hl
  obtain ⟨t1, t2⟩ := tx_r j hj
  have hcl : (iI (j : Int)).toNatClampNeg = j := by rw [iI_nat, nI_clamp (by omega)]
  refine lv_iload_n X.1 X.2.1 dJ1_charAt_3b067_0 rfl (lv_at hl 1 rfl) ?_
  refine lv_aload_n X.1 X.2.1 dJ1_charAt_3b067_1 rfl (lv_at hl 0 rfl) ?_
  refine va_tlen (v := iI 78) X.1 X.2.1 hT hS rfl dJ1_charAt_3b067_2 ?_
  refine va_csv (crS (As := [.int (iI j), .int (iI 78)]) (rest := []) X (k_J0_checkIndex_df160 l kS vS j hj) (gdC tb_258 gdB) tb_256 tb_257 tb_24 ⟨ok_J0_checkIndex_df160, ⟨Nat.le_of_ble_eq_true rfl, Nat.le_of_ble_eq_true rfl⟩, rfl, rfl⟩ (PS.pre hP) rfl hl.1 rfl (Nat.le_of_ble_eq_true rfl) dJ1_charAt_3b067_3 ⟨Nat.zero_le _, Nat.zero_le _⟩) (fun _ => ?_)
  refine lv_aload_n X.1 X.2.1 dJ1_charAt_3b067_6 rfl (lv_at hl 0 rfl) ?_
  refine lv_iload_n X.1 X.2.1 dJ1_charAt_3b067_7 rfl (lv_at hl 1 rfl) ?_
  refine va_tb (v := .int (iI (tx j))) X.1 X.2.1 hT hS (iI_in (by omega) (by omega) (by decide)) (by rw [hcl]) dJ1_charAt_3b067_8 ?_
  refine ri_spush X (v := 255) (by decide) dJ1_charAt_3b067_9 ?_
  refine ri_and X (by omega) (by omega) dJ1_charAt_3b067_12 ?_
  rw [t2]
  refine ri_i2c X (by omega) dJ1_charAt_3b067_13 ?_
  exact st_i X hr hlk (iI_char (by omega) (by omega)).1 rfl dJ1_charAt_3b067_14
set_option maxRecDepth 100000 in
set_option maxHeartbeats 4000000 in
theorem k_J0_isLatin1_aae02 (l : Launch) (kS vS : Nat)  : Met l yJ0_isLatin1_aae02 (.code yJ0_isLatin1_aae02 cJ0_isLatin1_aae02 1 (some .boolean) :: TB) rm_J0_isLatin1_aae02 (va_Pc [.ref kS] (PS kS vS)) (QS (fun r => r = 1)) 0 0 nA := by
  refine S_start (own := "java/lang/String") (by decide +kernel) rfl (Nat.le_of_ble_eq_true rfl) ?_
  intro p e s m args below meth c X hr hlk hP ls hl
  have hS : va_S nA s.heap s.heap [] := va_S.rf
  obtain ⟨hO, hC, hV, hT, hZ, hF⟩ := id hP
  have hl : lv_has ls 1 [(0, .ref kS)] := hl
  refine va_gets (v := .int (iI 1)) X.1 X.2.1 hZ hS X.2.2.2.1 (X.2.2.2.2 _ tb_243) (fun _ h => h) dJ0_isLatin1_aae02_0 ?_
  refine rz_eq (tgt := 17) X (by omega) dJ0_isLatin1_aae02_3 (by decide) (fun q => absurd q (by decide)) (fun _ => ?_)
  refine lv_aload_n X.1 X.2.1 dJ0_isLatin1_aae02_6 rfl (lv_at hl 0 rfl) ?_
  refine vk_getf X.1 X.2.1 hC hS X.2.2.2.1 (X.2.2.2.2 _ tb_668) (fun _ h => h) dJ0_isLatin1_aae02_7 ?_
  refine rz_ne (tgt := 17) X (by omega) dJ0_isLatin1_aae02_10 (by decide) (fun q => absurd rfl q) (fun _ => ?_)
  refine ri_const X (v := 1) dJ0_isLatin1_aae02_13 ?_
  refine lv_goto (tgt := 18) X.1 X.2.1 dJ0_isLatin1_aae02_14 (by decide) ?_
  exact st_i X hr hlk rfl rfl dJ0_isLatin1_aae02_18
set_option maxRecDepth 100000 in
set_option maxHeartbeats 4000000 in
theorem k_J0_charAt_5068e (l : Launch) (kS vS : Nat) (j : Nat) (hj : j < 78) : Met l yJ0_charAt_5068e (.code yJ0_charAt_5068e cJ0_charAt_5068e 2 (some .char) :: TB) rm_J0_charAt_5068e (va_Pc [.ref kS, .int (iI j)] (PS kS vS)) (QS (fun r => r = tx j)) 0 0 nA := by
  refine S_start (own := "java/lang/String") (by decide +kernel) rfl (Nat.le_of_ble_eq_true rfl) ?_
  intro p e s m args below meth c X hr hlk hP ls hl
  have hS : va_S nA s.heap s.heap [] := va_S.rf
  obtain ⟨hO, hC, hV, hT, hZ, hF⟩ := id hP
  have hl : lv_has ls 2 [(0, .ref kS), (1, .int (iI j))] := hl
  obtain ⟨t1, t2⟩ := tx_r j hj
  refine lv_aload_n X.1 X.2.1 dJ0_charAt_5068e_0 rfl (lv_at hl 0 rfl) ?_
  refine cs_i (crV (As := []) (rest := []) X (k_J0_isLatin1_aae02 l kS vS) (gdC tb_249 (gdC tb_250 (gdC tb_251 (gdC tb_24 (gdC tb_252 gdB))))) ⟨ok_J0_isLatin1_aae02, ⟨Nat.le_of_ble_eq_true rfl, Nat.le_of_ble_eq_true rfl⟩, rfl, rfl⟩ (PS.preV hP) rfl hl.1 rfl (Nat.le_of_ble_eq_true rfl) dJ0_charAt_5068e_1 ⟨Nat.zero_le _, Nat.zero_le _⟩) (fun z hz => ?_)
  rw [hz]
  refine rz_eq (tgt := 16) X (by omega) dJ0_charAt_5068e_4 (by decide) (fun q => absurd q (by decide)) (fun _ => ?_)
  refine lv_aload_n X.1 X.2.1 dJ0_charAt_5068e_7 rfl (lv_at hl 0 rfl) ?_
  refine vk_getf X.1 X.2.1 hV hS X.2.2.2.1 (X.2.2.2.2 _ tb_667) (fun _ h => h) dJ0_charAt_5068e_8 ?_
  refine lv_iload_n X.1 X.2.1 dJ0_charAt_5068e_11 rfl (lv_at hl 1 rfl) ?_
  refine cs_i (crS (As := [.ref vS, .int (iI j)]) (rest := []) X (k_J1_charAt_3b067 l kS vS j hj) (gdC tb_255 gdB) tb_253 tb_254 tb_25 ⟨ok_J1_charAt_3b067, ⟨Nat.le_of_ble_eq_true rfl, Nat.le_of_ble_eq_true rfl⟩, rfl, rfl⟩ (PS.pre hP) rfl hl.1 rfl (Nat.le_of_ble_eq_true rfl) dJ0_charAt_5068e_12 ⟨Nat.zero_le _, Nat.zero_le _⟩) (fun z hz => ?_)
  rw [hz]
  exact st_i X hr hlk (iI_char (by omega) (by omega)).1 rfl dJ0_charAt_5068e_15
set_option maxRecDepth 100000 in
set_option maxHeartbeats 4000000 in
theorem k_J0_coder_7d493 (l : Launch) (kS vS : Nat)  : Met l yJ0_coder_7d493 (.code yJ0_coder_7d493 cJ0_coder_7d493 1 (some .byte) :: TB) rm_J0_coder_7d493 (va_Pc [.ref kS] (PS kS vS)) (QS (fun r => r = 0)) 0 0 nA := by
  refine S_start (own := "java/lang/String") (by decide +kernel) rfl (Nat.le_of_ble_eq_true rfl) ?_
  intro p e s m args below meth c X hr hlk hP ls hl
  have hS : va_S nA s.heap s.heap [] := va_S.rf
  obtain ⟨hO, hC, hV, hT, hZ, hF⟩ := id hP
  have hl : lv_has ls 1 [(0, .ref kS)] := hl
  refine va_gets (v := .int (iI 1)) X.1 X.2.1 hZ hS X.2.2.2.1 (X.2.2.2.2 _ tb_243) (fun _ h => h) dJ0_coder_7d493_0 ?_
  refine rz_eq (tgt := 13) X (by omega) dJ0_coder_7d493_3 (by decide) (fun q => absurd q (by decide)) (fun _ => ?_)
  refine lv_aload_n X.1 X.2.1 dJ0_coder_7d493_6 rfl (lv_at hl 0 rfl) ?_
  refine vk_getf X.1 X.2.1 hC hS X.2.2.2.1 (X.2.2.2.2 _ tb_668) (fun _ h => h) dJ0_coder_7d493_7 ?_
  refine lv_goto (tgt := 14) X.1 X.2.1 dJ0_coder_7d493_10 (by decide) ?_
  exact st_i X hr hlk rfl rfl dJ0_coder_7d493_14
set_option maxRecDepth 100000 in
set_option maxHeartbeats 4000000 in
theorem k_J0_length_8abf5 (l : Launch) (kS vS : Nat)  : Met l yJ0_length_8abf5 (.code yJ0_length_8abf5 cJ0_length_8abf5 1 (some .int) :: TB) rm_J0_length_8abf5 (va_Pc [.ref kS] (PS kS vS)) (QS (fun r => r = 78)) 0 0 nA := by
  refine S_start (own := "java/lang/String") (by decide +kernel) rfl (Nat.le_of_ble_eq_true rfl) ?_
  intro p e s m args below meth c X hr hlk hP ls hl
  have hS : va_S nA s.heap s.heap [] := va_S.rf
  obtain ⟨hO, hC, hV, hT, hZ, hF⟩ := id hP
  have hl : lv_has ls 1 [(0, .ref kS)] := hl
  refine lv_aload_n X.1 X.2.1 dJ0_length_8abf5_0 rfl (lv_at hl 0 rfl) ?_
  refine vk_getf X.1 X.2.1 hV hS X.2.2.2.1 (X.2.2.2.2 _ tb_667) (fun _ h => h) dJ0_length_8abf5_1 ?_
  refine va_tlen (v := iI 78) X.1 X.2.1 hT hS rfl dJ0_length_8abf5_4 ?_
  refine lv_aload_n X.1 X.2.1 dJ0_length_8abf5_5 rfl (lv_at hl 0 rfl) ?_
  refine cs_i (crV (As := []) (rest := [.int (iI 78)]) X (k_J0_coder_7d493 l kS vS) (gdC tb_239 (gdC tb_240 (gdC tb_241 (gdC tb_24 (gdC tb_242 gdB))))) ⟨ok_J0_coder_7d493, ⟨Nat.le_of_ble_eq_true rfl, Nat.le_of_ble_eq_true rfl⟩, rfl, rfl⟩ (PS.preV hP) rfl hl.1 rfl (Nat.le_of_ble_eq_true rfl) dJ0_length_8abf5_6 ⟨Nat.zero_le _, Nat.zero_le _⟩) (fun z hz => ?_)
  rw [hz]
  refine lv_ishr X.1 X.2.1 dJ0_length_8abf5_9 ?_
  rw [show iI 78 >>> (iI 0 &&& 31) = iI 78 from by decide +kernel]
  exact st_i X hr hlk rfl rfl dJ0_length_8abf5_10
