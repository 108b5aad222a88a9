abbrev LW_ (p : Program) (l : Launch) (e : Env) (s : State) (m : MethodId) (below : List Frame) (meth : Method) (c : Code) (b : Nat) (H : Heap) (locs : List Loc) (f : JFrame) : Prop := W p l e room_1 s m #[Value.ref b] below meth c H locs 85 1470 (lw_Z below #[Value.ref b] s) f
abbrev LL_ (G M : Ge) (b k : Nat) : List (Nat × Value) := [(0, .ref b), (1, .ref (G.2.2 0)), (2, .ref (M.2.2 0)), (3, .int (iI (4 * (k : Int))))]
set_option maxRecDepth 100000 in
set_option maxHeartbeats 4000000 in
theorem law_write {p : Program} {l : Launch} {e : Env} {s : State} {m : MethodId} {below : List Frame} {meth : Method} {c : Code} {b L : Nat} {xs : Nat → Int32} {G M : Ge} (X : CallFix p m c cL_law 4 s #[Value.ref b] TB "NameSeekerLaw") (hX : va_X b L xs s s.heap) (hbl : b < s.heap.size) (hL : L ≤ 2048) {k : Nat} (hk : k < 512) (hkL : 4 * (k : Int) + 4 ≤ L) {S U : St} (hJ : JJ S U.1 k) {H : Heap} {locs : List Loc} (J : LJ G M s H locs S U) {ls : Array Slot} (hl : lv_has ls 4 (LL_ G M b k)) (nx : ∀ (S1 U1 : St) (H : Heap) (locs : List Loc), JJ S1 U1.1 ((k : Int) + 1) → LJ G M s H locs S1 U1 → LW_ p l e s m below meth c b H locs (F0 m 750 ls [])) : LW_ p l e s m below meth c b H locs (F0 m 152 ls []) := by
  refine lv_aload_n X.1 X.2.1 dL_law_152 rfl (lv_at hl 1 rfl) ?_
  refine w_arg X hX hbl hL J.2.2.2.2 hl (j := 1) (by omega) (by omega) (by omega) dL_law_153 dL_law_154 dL_law_155 dL_law_156 dL_law_157 ?_
  refine lw_C J (runV (As := [.int (iI (xv xs (4 * (k : Int) + 1)))]) (rest := []) X (k_X9_write l G S (xv xs (4 * (k : Int) + 1)) (xv_r xs _) k (CI_J hJ)) (gdC tb_445 (gdC tb_446 (gdC tb_447 (gdC tb_34 (gdC tb_448 gdB))))) ⟨ok_X9_write, ⟨Nat.le_of_ble_eq_true rfl, Nat.le_of_ble_eq_true rfl⟩, rfl, rfl⟩ (LJ.preC (C := RX9) (T := TX9) (N := 14) J atC_ns rfl) rfl hl.1 rfl (Nat.le_of_ble_eq_true rfl) dL_law_158 ⟨Nat.le_of_ble_eq_true rfl, Nat.le_of_ble_eq_true rfl⟩) (fun r1 S1 H locs q1 J => ?_)
  refine lv_aload_n X.1 X.2.1 dL_law_161 rfl (lv_at hl 2 rfl) ?_
  refine w_arg X hX hbl hL J.2.2.2.2 hl (j := 1) (by omega) (by omega) (by omega) dL_law_162 dL_law_163 dL_law_164 dL_law_165 dL_law_166 ?_
  refine lw_M J (runV (As := [.int (iI (xv xs (4 * (k : Int) + 1)))]) (rest := [.int (iI r1)]) X (k_X10_write l M U (xv xs (4 * (k : Int) + 1)) (xv_r xs _) (MI_J hJ).1) (gdC tb_818 (gdC tb_819 (gdC tb_820 (gdC tb_48 (gdC tb_821 gdB))))) ⟨ok_X10_write, ⟨Nat.le_of_ble_eq_true rfl, Nat.le_of_ble_eq_true rfl⟩, rfl, rfl⟩ (LJ.preM (C := RX10) (T := TX10) (N := 41) J atM_model rfl) rfl hl.1 rfl (Nat.le_of_ble_eq_true rfl) dL_law_167 ⟨Nat.le_of_ble_eq_true rfl, Nat.le_of_ble_eq_true rfl⟩) (fun r2 U1 H locs q2 J => ?_)
  obtain ⟨e9, hJ1⟩ := op_write hJ (by omega) q1 q2
  refine lv_icmp_eq (tgt := 750) X.1 X.2.1 dL_law_170 (by decide) (fun _ => ?_) (fun z => absurd (by rw [e9]) z)
  exact nx _ _ _ _ hJ1 J
set_option maxRecDepth 100000 in
set_option maxHeartbeats 4000000 in
theorem law_wipe {p : Program} {l : Launch} {e : Env} {s : State} {m : MethodId} {below : List Frame} {meth : Method} {c : Code} {b L : Nat} {xs : Nat → Int32} {G M : Ge} (X : CallFix p m c cL_law 4 s #[Value.ref b] TB "NameSeekerLaw") (hX : va_X b L xs s s.heap) (hbl : b < s.heap.size) (hL : L ≤ 2048) {k : Nat} (hk : k < 512) (hkL : 4 * (k : Int) + 4 ≤ L) {S U : St} (hJ : JJ S U.1 k) {H : Heap} {locs : List Loc} (J : LJ G M s H locs S U) {ls : Array Slot} (hl : lv_has ls 4 (LL_ G M b k)) (nx : ∀ (S1 U1 : St) (H : Heap) (locs : List Loc), JJ S1 U1.1 ((k : Int) + 1) → LJ G M s H locs S1 U1 → LW_ p l e s m below meth c b H locs (F0 m 750 ls [])) : LW_ p l e s m below meth c b H locs (F0 m 175 ls []) := by
  refine lv_aload_n X.1 X.2.1 dL_law_175 rfl (lv_at hl 1 rfl) ?_
  refine lw_C J (runV (As := []) (rest := []) X (k_X9_wipe l G S   k (CI_J hJ)) (gdC tb_449 (gdC tb_450 (gdC tb_451 (gdC tb_34 (gdC tb_452 gdB))))) ⟨ok_X9_wipe, ⟨Nat.le_of_ble_eq_true rfl, Nat.le_of_ble_eq_true rfl⟩, rfl, rfl⟩ (LJ.preC (C := RX9) (T := TX9) (N := 14) J atC_ns rfl) rfl hl.1 rfl (Nat.le_of_ble_eq_true rfl) dL_law_176 ⟨Nat.le_of_ble_eq_true rfl, Nat.le_of_ble_eq_true rfl⟩) (fun r1 S1 H locs q1 J => ?_)
  refine lv_aload_n X.1 X.2.1 dL_law_179 rfl (lv_at hl 2 rfl) ?_
  refine lw_M J (runV (As := []) (rest := [.int (iI r1)]) X (k_X10_wipe l M U   ) (gdC tb_822 (gdC tb_823 (gdC tb_824 (gdC tb_48 (gdC tb_825 gdB))))) ⟨ok_X10_wipe, ⟨Nat.le_of_ble_eq_true rfl, Nat.le_of_ble_eq_true rfl⟩, rfl, rfl⟩ (LJ.preM (C := RX10) (T := TX10) (N := 41) J atM_model rfl) rfl hl.1 rfl (Nat.le_of_ble_eq_true rfl) dL_law_180 ⟨Nat.le_of_ble_eq_true rfl, Nat.le_of_ble_eq_true rfl⟩) (fun r2 U1 H locs q2 J => ?_)
  obtain ⟨e9, hJ1⟩ := op_wipe hJ (by omega) q1 q2
  refine lv_icmp_eq (tgt := 750) X.1 X.2.1 dL_law_183 (by decide) (fun _ => ?_) (fun z => absurd (by rw [e9]) z)
  exact nx _ _ _ _ hJ1 J
set_option maxRecDepth 100000 in
set_option maxHeartbeats 4000000 in
theorem law_fault {p : Program} {l : Launch} {e : Env} {s : State} {m : MethodId} {below : List Frame} {meth : Method} {c : Code} {b L : Nat} {xs : Nat → Int32} {G M : Ge} (X : CallFix p m c cL_law 4 s #[Value.ref b] TB "NameSeekerLaw") (hX : va_X b L xs s s.heap) (hbl : b < s.heap.size) (hL : L ≤ 2048) {k : Nat} (hk : k < 512) (hkL : 4 * (k : Int) + 4 ≤ L) {S U : St} (hJ : JJ S U.1 k) {H : Heap} {locs : List Loc} (J : LJ G M s H locs S U) {ls : Array Slot} (hl : lv_has ls 4 (LL_ G M b k)) (nx : ∀ (S1 U1 : St) (H : Heap) (locs : List Loc), JJ S1 U1.1 ((k : Int) + 1) → LJ G M s H locs S1 U1 → LW_ p l e s m below meth c b H locs (F0 m 750 ls [])) : LW_ p l e s m below meth c b H locs (F0 m 188 ls []) := by
  refine lv_aload_n X.1 X.2.1 dL_law_188 rfl (lv_at hl 1 rfl) ?_
  refine lw_C J (runV (As := []) (rest := []) X (k_X9_fault l G S   k (CI_J hJ)) (gdC tb_453 (gdC tb_454 (gdC tb_455 (gdC tb_34 (gdC tb_456 gdB))))) ⟨ok_X9_fault, ⟨Nat.le_of_ble_eq_true rfl, Nat.le_of_ble_eq_true rfl⟩, rfl, rfl⟩ (LJ.preC (C := RX9) (T := TX9) (N := 14) J atC_ns rfl) rfl hl.1 rfl (Nat.le_of_ble_eq_true rfl) dL_law_189 ⟨Nat.le_of_ble_eq_true rfl, Nat.le_of_ble_eq_true rfl⟩) (fun r1 S1 H locs q1 J => ?_)
  refine lv_aload_n X.1 X.2.1 dL_law_192 rfl (lv_at hl 2 rfl) ?_
  refine lw_M J (runV (As := []) (rest := [.int (iI r1)]) X (k_X10_fault l M U   (U.1 1) (U.1 50 0) (fun _ => rfl) rfl (MI_J hJ).1 (MI_J hJ).2.1) (gdC tb_826 (gdC tb_827 (gdC tb_828 (gdC tb_48 (gdC tb_829 gdB))))) ⟨ok_X10_fault, ⟨Nat.le_of_ble_eq_true rfl, Nat.le_of_ble_eq_true rfl⟩, rfl, rfl⟩ (LJ.preM (C := RX10) (T := TX10) (N := 41) J atM_model rfl) rfl hl.1 rfl (Nat.le_of_ble_eq_true rfl) dL_law_193 ⟨Nat.le_of_ble_eq_true rfl, Nat.le_of_ble_eq_true rfl⟩) (fun r2 U1 H locs q2 J => ?_)
  obtain ⟨e9, hJ1⟩ := op_fault hJ (by omega) q1 q2
  refine lv_icmp_eq (tgt := 750) X.1 X.2.1 dL_law_196 (by decide) (fun _ => ?_) (fun z => absurd (by rw [e9]) z)
  exact nx _ _ _ _ hJ1 J
set_option maxRecDepth 100000 in
set_option maxHeartbeats 4000000 in
theorem law_lay {p : Program} {l : Launch} {e : Env} {s : State} {m : MethodId} {below : List Frame} {meth : Method} {c : Code} {b L : Nat} {xs : Nat → Int32} {G M : Ge} (X : CallFix p m c cL_law 4 s #[Value.ref b] TB "NameSeekerLaw") (hX : va_X b L xs s s.heap) (hbl : b < s.heap.size) (hL : L ≤ 2048) {k : Nat} (hk : k < 512) (hkL : 4 * (k : Int) + 4 ≤ L) {S U : St} (hJ : JJ S U.1 k) {H : Heap} {locs : List Loc} (J : LJ G M s H locs S U) {ls : Array Slot} (hl : lv_has ls 4 (LL_ G M b k)) (nx : ∀ (S1 U1 : St) (H : Heap) (locs : List Loc), JJ S1 U1.1 ((k : Int) + 1) → LJ G M s H locs S1 U1 → LW_ p l e s m below meth c b H locs (F0 m 750 ls [])) : LW_ p l e s m below meth c b H locs (F0 m 201 ls []) := by
  refine lv_aload_n X.1 X.2.1 dL_law_201 rfl (lv_at hl 1 rfl) ?_
  refine lw_C J (runV (As := []) (rest := []) X (k_X9_lay l G S   k (CI_J hJ)) (gdC tb_462 (gdC tb_463 (gdC tb_464 (gdC tb_34 (gdC tb_465 gdB))))) ⟨ok_X9_lay, ⟨Nat.le_of_ble_eq_true rfl, Nat.le_of_ble_eq_true rfl⟩, rfl, rfl⟩ (LJ.preC (C := RX9) (T := TX9) (N := 14) J atC_ns rfl) rfl hl.1 rfl (Nat.le_of_ble_eq_true rfl) dL_law_202 ⟨Nat.le_of_ble_eq_true rfl, Nat.le_of_ble_eq_true rfl⟩) (fun r1 S1 H locs q1 J => ?_)
  refine lv_aload_n X.1 X.2.1 dL_law_205 rfl (lv_at hl 2 rfl) ?_
  refine lw_M J (runV (As := []) (rest := [.int (iI r1)]) X (k_X10_lay l M U   (U.1 1) (U.1 50 0) (fun _ => rfl) rfl (MI_J hJ).1 (MI_J hJ).2.1 (by have h9 := hJ.2.2.2.2.1; unfold JC at h9; omega)) (gdC tb_859 (gdC tb_860 (gdC tb_861 (gdC tb_48 (gdC tb_862 gdB))))) ⟨ok_X10_lay, ⟨Nat.le_of_ble_eq_true rfl, Nat.le_of_ble_eq_true rfl⟩, rfl, rfl⟩ (LJ.preM (C := RX10) (T := TX10) (N := 41) J atM_model rfl) rfl hl.1 rfl (Nat.le_of_ble_eq_true rfl) dL_law_206 ⟨Nat.le_of_ble_eq_true rfl, Nat.le_of_ble_eq_true rfl⟩) (fun r2 U1 H locs q2 J => ?_)
  obtain ⟨e9, hJ1⟩ := op_lay hJ (by omega) q1 q2
  refine lv_icmp_eq (tgt := 750) X.1 X.2.1 dL_law_209 (by decide) (fun _ => ?_) (fun z => absurd (by rw [e9]) z)
  exact nx _ _ _ _ hJ1 J
set_option maxRecDepth 100000 in
set_option maxHeartbeats 4000000 in
theorem law_name {p : Program} {l : Launch} {e : Env} {s : State} {m : MethodId} {below : List Frame} {meth : Method} {c : Code} {b L : Nat} {xs : Nat → Int32} {G M : Ge} (X : CallFix p m c cL_law 4 s #[Value.ref b] TB "NameSeekerLaw") (hX : va_X b L xs s s.heap) (hbl : b < s.heap.size) (hL : L ≤ 2048) {k : Nat} (hk : k < 512) (hkL : 4 * (k : Int) + 4 ≤ L) {S U : St} (hJ : JJ S U.1 k) {H : Heap} {locs : List Loc} (J : LJ G M s H locs S U) {ls : Array Slot} (hl : lv_has ls 4 (LL_ G M b k)) (nx : ∀ (S1 U1 : St) (H : Heap) (locs : List Loc), JJ S1 U1.1 ((k : Int) + 1) → LJ G M s H locs S1 U1 → LW_ p l e s m below meth c b H locs (F0 m 750 ls [])) : LW_ p l e s m below meth c b H locs (F0 m 214 ls []) := by
  refine lv_aload_n X.1 X.2.1 dL_law_214 rfl (lv_at hl 1 rfl) ?_
  refine w_arg X hX hbl hL J.2.2.2.2 hl (j := 1) (by omega) (by omega) (by omega) dL_law_215 dL_law_216 dL_law_217 dL_law_218 dL_law_219 ?_
  refine w_arg X hX hbl hL J.2.2.2.2 hl (j := 2) (by omega) (by omega) (by omega) dL_law_220 dL_law_221 dL_law_222 dL_law_223 dL_law_224 ?_
  refine lw_C J (runV (As := [.int (iI (xv xs (4 * (k : Int) + 1))), .int (iI (xv xs (4 * (k : Int) + 2)))]) (rest := []) X (k_X9_name l G S (xv xs (4 * (k : Int) + 1)) (xv xs (4 * (k : Int) + 2)) (xv_r xs _) (xv_r xs _) k (CI_J hJ)) (gdC tb_470 (gdC tb_471 (gdC tb_472 (gdC tb_34 (gdC tb_473 gdB))))) ⟨ok_X9_name, ⟨Nat.le_of_ble_eq_true rfl, Nat.le_of_ble_eq_true rfl⟩, rfl, rfl⟩ (LJ.preC (C := RX9) (T := TX9) (N := 14) J atC_ns rfl) rfl hl.1 rfl (Nat.le_of_ble_eq_true rfl) dL_law_225 ⟨Nat.le_of_ble_eq_true rfl, Nat.le_of_ble_eq_true rfl⟩) (fun r1 S1 H locs q1 J => ?_)
  refine lv_aload_n X.1 X.2.1 dL_law_228 rfl (lv_at hl 2 rfl) ?_
  refine w_arg X hX hbl hL J.2.2.2.2 hl (j := 1) (by omega) (by omega) (by omega) dL_law_229 dL_law_230 dL_law_231 dL_law_232 dL_law_233 ?_
  refine w_arg X hX hbl hL J.2.2.2.2 hl (j := 2) (by omega) (by omega) (by omega) dL_law_234 dL_law_235 dL_law_236 dL_law_237 dL_law_238 ?_
  refine lw_M J (runV (As := [.int (iI (xv xs (4 * (k : Int) + 1))), .int (iI (xv xs (4 * (k : Int) + 2)))]) (rest := [.int (iI r1)]) X (k_X10_name l M U (xv xs (4 * (k : Int) + 1)) (xv xs (4 * (k : Int) + 2)) (xv_r xs _) (xv_r xs _) (MI_J hJ)) (gdC tb_863 (gdC tb_864 (gdC tb_865 (gdC tb_48 (gdC tb_866 gdB))))) ⟨ok_X10_name, ⟨Nat.le_of_ble_eq_true rfl, Nat.le_of_ble_eq_true rfl⟩, rfl, rfl⟩ (LJ.preM (C := RX10) (T := TX10) (N := 41) J atM_model rfl) rfl hl.1 rfl (Nat.le_of_ble_eq_true rfl) dL_law_239 ⟨Nat.le_of_ble_eq_true rfl, Nat.le_of_ble_eq_true rfl⟩) (fun r2 U1 H locs q2 J => ?_)
  obtain ⟨e9, hJ1⟩ := op_name hJ (by omega) q1 q2
  refine lv_icmp_eq (tgt := 750) X.1 X.2.1 dL_law_242 (by decide) (fun _ => ?_) (fun z => absurd (by rw [e9]) z)
  exact nx _ _ _ _ hJ1 J
set_option maxRecDepth 100000 in
set_option maxHeartbeats 4000000 in
theorem law_sign {p : Program} {l : Launch} {e : Env} {s : State} {m : MethodId} {below : List Frame} {meth : Method} {c : Code} {b L : Nat} {xs : Nat → Int32} {G M : Ge} (X : CallFix p m c cL_law 4 s #[Value.ref b] TB "NameSeekerLaw") (hX : va_X b L xs s s.heap) (hbl : b < s.heap.size) (hL : L ≤ 2048) {k : Nat} (hk : k < 512) (hkL : 4 * (k : Int) + 4 ≤ L) {S U : St} (hJ : JJ S U.1 k) {H : Heap} {locs : List Loc} (J : LJ G M s H locs S U) {ls : Array Slot} (hl : lv_has ls 4 (LL_ G M b k)) (nx : ∀ (S1 U1 : St) (H : Heap) (locs : List Loc), JJ S1 U1.1 ((k : Int) + 1) → LJ G M s H locs S1 U1 → LW_ p l e s m below meth c b H locs (F0 m 750 ls [])) : LW_ p l e s m below meth c b H locs (F0 m 247 ls []) := by
  refine lv_aload_n X.1 X.2.1 dL_law_247 rfl (lv_at hl 1 rfl) ?_
  refine w_arg X hX hbl hL J.2.2.2.2 hl (j := 1) (by omega) (by omega) (by omega) dL_law_248 dL_law_249 dL_law_250 dL_law_251 dL_law_252 ?_
  refine w_arg X hX hbl hL J.2.2.2.2 hl (j := 2) (by omega) (by omega) (by omega) dL_law_253 dL_law_254 dL_law_255 dL_law_256 dL_law_257 ?_
  refine lw_C J (runV (As := [.int (iI (xv xs (4 * (k : Int) + 1))), .int (iI (xv xs (4 * (k : Int) + 2)))]) (rest := []) X (k_X9_sign l G S (xv xs (4 * (k : Int) + 1)) (xv xs (4 * (k : Int) + 2)) (xv_r xs _) (xv_r xs _) k (CI_J hJ)) (gdC tb_478 (gdC tb_479 (gdC tb_480 (gdC tb_34 (gdC tb_481 gdB))))) ⟨ok_X9_sign, ⟨Nat.le_of_ble_eq_true rfl, Nat.le_of_ble_eq_true rfl⟩, rfl, rfl⟩ (LJ.preC (C := RX9) (T := TX9) (N := 14) J atC_ns rfl) rfl hl.1 rfl (Nat.le_of_ble_eq_true rfl) dL_law_258 ⟨Nat.le_of_ble_eq_true rfl, Nat.le_of_ble_eq_true rfl⟩) (fun r1 S1 H locs q1 J => ?_)
  refine lv_aload_n X.1 X.2.1 dL_law_261 rfl (lv_at hl 2 rfl) ?_
  refine w_arg X hX hbl hL J.2.2.2.2 hl (j := 1) (by omega) (by omega) (by omega) dL_law_262 dL_law_263 dL_law_264 dL_law_265 dL_law_266 ?_
  refine w_arg X hX hbl hL J.2.2.2.2 hl (j := 2) (by omega) (by omega) (by omega) dL_law_267 dL_law_268 dL_law_269 dL_law_270 dL_law_271 ?_
  refine lw_M J (runV (As := [.int (iI (xv xs (4 * (k : Int) + 1))), .int (iI (xv xs (4 * (k : Int) + 2)))]) (rest := [.int (iI r1)]) X (k_X10_sign l M U (xv xs (4 * (k : Int) + 1)) (xv xs (4 * (k : Int) + 2)) (xv_r xs _) (xv_r xs _) (MI_J hJ)) (gdC tb_875 (gdC tb_876 (gdC tb_877 (gdC tb_48 (gdC tb_878 gdB))))) ⟨ok_X10_sign, ⟨Nat.le_of_ble_eq_true rfl, Nat.le_of_ble_eq_true rfl⟩, rfl, rfl⟩ (LJ.preM (C := RX10) (T := TX10) (N := 41) J atM_model rfl) rfl hl.1 rfl (Nat.le_of_ble_eq_true rfl) dL_law_272 ⟨Nat.le_of_ble_eq_true rfl, Nat.le_of_ble_eq_true rfl⟩) (fun r2 U1 H locs q2 J => ?_)
  obtain ⟨e9, hJ1⟩ := op_sign hJ (by omega) q1 q2
  refine lv_icmp_eq (tgt := 750) X.1 X.2.1 dL_law_275 (by decide) (fun _ => ?_) (fun z => absurd (by rw [e9]) z)
  exact nx _ _ _ _ hJ1 J
set_option maxRecDepth 100000 in
set_option maxHeartbeats 4000000 in
theorem law_type {p : Program} {l : Launch} {e : Env} {s : State} {m : MethodId} {below : List Frame} {meth : Method} {c : Code} {b L : Nat} {xs : Nat → Int32} {G M : Ge} (X : CallFix p m c cL_law 4 s #[Value.ref b] TB "NameSeekerLaw") (hX : va_X b L xs s s.heap) (hbl : b < s.heap.size) (hL : L ≤ 2048) {k : Nat} (hk : k < 512) (hkL : 4 * (k : Int) + 4 ≤ L) {S U : St} (hJ : JJ S U.1 k) {H : Heap} {locs : List Loc} (J : LJ G M s H locs S U) {ls : Array Slot} (hl : lv_has ls 4 (LL_ G M b k)) (nx : ∀ (S1 U1 : St) (H : Heap) (locs : List Loc), JJ S1 U1.1 ((k : Int) + 1) → LJ G M s H locs S1 U1 → LW_ p l e s m below meth c b H locs (F0 m 750 ls [])) : LW_ p l e s m below meth c b H locs (F0 m 280 ls []) := by
  refine lv_aload_n X.1 X.2.1 dL_law_280 rfl (lv_at hl 1 rfl) ?_
  refine w_arg X hX hbl hL J.2.2.2.2 hl (j := 1) (by omega) (by omega) (by omega) dL_law_281 dL_law_282 dL_law_283 dL_law_284 dL_law_285 ?_
  refine lw_C J (runV (As := [.int (iI (xv xs (4 * (k : Int) + 1)))]) (rest := []) X (k_X9_type l G S (xv xs (4 * (k : Int) + 1)) (xv_r xs _) k (CI_J hJ)) (gdC tb_482 (gdC tb_483 (gdC tb_484 (gdC tb_34 (gdC tb_485 gdB))))) ⟨ok_X9_type, ⟨Nat.le_of_ble_eq_true rfl, Nat.le_of_ble_eq_true rfl⟩, rfl, rfl⟩ (LJ.preC (C := RX9) (T := TX9) (N := 14) J atC_ns rfl) rfl hl.1 rfl (Nat.le_of_ble_eq_true rfl) dL_law_286 ⟨Nat.le_of_ble_eq_true rfl, Nat.le_of_ble_eq_true rfl⟩) (fun r1 S1 H locs q1 J => ?_)
  refine lv_aload_n X.1 X.2.1 dL_law_289 rfl (lv_at hl 2 rfl) ?_
  refine w_arg X hX hbl hL J.2.2.2.2 hl (j := 1) (by omega) (by omega) (by omega) dL_law_290 dL_law_291 dL_law_292 dL_law_293 dL_law_294 ?_
  refine lw_M J (runV (As := [.int (iI (xv xs (4 * (k : Int) + 1)))]) (rest := [.int (iI r1)]) X (k_X10_type l M U (xv xs (4 * (k : Int) + 1)) (xv_r xs _) (MI_J hJ)) (gdC tb_879 (gdC tb_880 (gdC tb_881 (gdC tb_48 (gdC tb_882 gdB))))) ⟨ok_X10_type, ⟨Nat.le_of_ble_eq_true rfl, Nat.le_of_ble_eq_true rfl⟩, rfl, rfl⟩ (LJ.preM (C := RX10) (T := TX10) (N := 41) J atM_model rfl) rfl hl.1 rfl (Nat.le_of_ble_eq_true rfl) dL_law_295 ⟨Nat.le_of_ble_eq_true rfl, Nat.le_of_ble_eq_true rfl⟩) (fun r2 U1 H locs q2 J => ?_)
  obtain ⟨e9, hJ1⟩ := op_type hJ (by omega) q1 q2
  refine lv_icmp_eq (tgt := 750) X.1 X.2.1 dL_law_298 (by decide) (fun _ => ?_) (fun z => absurd (by rw [e9]) z)
  exact nx _ _ _ _ hJ1 J
set_option maxRecDepth 100000 in
set_option maxHeartbeats 4000000 in
theorem law_untype {p : Program} {l : Launch} {e : Env} {s : State} {m : MethodId} {below : List Frame} {meth : Method} {c : Code} {b L : Nat} {xs : Nat → Int32} {G M : Ge} (X : CallFix p m c cL_law 4 s #[Value.ref b] TB "NameSeekerLaw") (hX : va_X b L xs s s.heap) (hbl : b < s.heap.size) (hL : L ≤ 2048) {k : Nat} (hk : k < 512) (hkL : 4 * (k : Int) + 4 ≤ L) {S U : St} (hJ : JJ S U.1 k) {H : Heap} {locs : List Loc} (J : LJ G M s H locs S U) {ls : Array Slot} (hl : lv_has ls 4 (LL_ G M b k)) (nx : ∀ (S1 U1 : St) (H : Heap) (locs : List Loc), JJ S1 U1.1 ((k : Int) + 1) → LJ G M s H locs S1 U1 → LW_ p l e s m below meth c b H locs (F0 m 750 ls [])) : LW_ p l e s m below meth c b H locs (F0 m 303 ls []) := by
  refine lv_aload_n X.1 X.2.1 dL_law_303 rfl (lv_at hl 1 rfl) ?_
  refine lw_C J (runV (As := []) (rest := []) X (k_X9_untype l G S   k (CI_J hJ)) (gdC tb_490 (gdC tb_491 (gdC tb_492 (gdC tb_34 (gdC tb_493 gdB))))) ⟨ok_X9_untype, ⟨Nat.le_of_ble_eq_true rfl, Nat.le_of_ble_eq_true rfl⟩, rfl, rfl⟩ (LJ.preC (C := RX9) (T := TX9) (N := 14) J atC_ns rfl) rfl hl.1 rfl (Nat.le_of_ble_eq_true rfl) dL_law_304 ⟨Nat.le_of_ble_eq_true rfl, Nat.le_of_ble_eq_true rfl⟩) (fun r1 S1 H locs q1 J => ?_)
  refine lv_aload_n X.1 X.2.1 dL_law_307 rfl (lv_at hl 2 rfl) ?_
  refine lw_M J (runV (As := []) (rest := [.int (iI r1)]) X (k_X10_untype l M U   (MI_J hJ)) (gdC tb_883 (gdC tb_884 (gdC tb_885 (gdC tb_48 (gdC tb_886 gdB))))) ⟨ok_X10_untype, ⟨Nat.le_of_ble_eq_true rfl, Nat.le_of_ble_eq_true rfl⟩, rfl, rfl⟩ (LJ.preM (C := RX10) (T := TX10) (N := 41) J atM_model rfl) rfl hl.1 rfl (Nat.le_of_ble_eq_true rfl) dL_law_308 ⟨Nat.le_of_ble_eq_true rfl, Nat.le_of_ble_eq_true rfl⟩) (fun r2 U1 H locs q2 J => ?_)
  obtain ⟨e9, hJ1⟩ := op_untype hJ (by omega) q1 q2
  refine lv_icmp_eq (tgt := 750) X.1 X.2.1 dL_law_311 (by decide) (fun _ => ?_) (fun z => absurd (by rw [e9]) z)
  exact nx _ _ _ _ hJ1 J
set_option maxRecDepth 100000 in
set_option maxHeartbeats 4000000 in
theorem law_roll {p : Program} {l : Launch} {e : Env} {s : State} {m : MethodId} {below : List Frame} {meth : Method} {c : Code} {b L : Nat} {xs : Nat → Int32} {G M : Ge} (X : CallFix p m c cL_law 4 s #[Value.ref b] TB "NameSeekerLaw") (hX : va_X b L xs s s.heap) (hbl : b < s.heap.size) (hL : L ≤ 2048) {k : Nat} (hk : k < 512) (hkL : 4 * (k : Int) + 4 ≤ L) {S U : St} (hJ : JJ S U.1 k) {H : Heap} {locs : List Loc} (J : LJ G M s H locs S U) {ls : Array Slot} (hl : lv_has ls 4 (LL_ G M b k)) (nx : ∀ (S1 U1 : St) (H : Heap) (locs : List Loc), JJ S1 U1.1 ((k : Int) + 1) → LJ G M s H locs S1 U1 → LW_ p l e s m below meth c b H locs (F0 m 750 ls [])) : LW_ p l e s m below meth c b H locs (F0 m 316 ls []) := by
  refine lv_aload_n X.1 X.2.1 dL_law_316 rfl (lv_at hl 1 rfl) ?_
  refine lw_C J (runV (As := []) (rest := []) X (k_X9_roll l G S   k (CI_J hJ)) (gdC tb_498 (gdC tb_499 (gdC tb_500 (gdC tb_34 (gdC tb_501 gdB))))) ⟨ok_X9_roll, ⟨Nat.le_of_ble_eq_true rfl, Nat.le_of_ble_eq_true rfl⟩, rfl, rfl⟩ (LJ.preC (C := RX9) (T := TX9) (N := 14) J atC_ns rfl) rfl hl.1 rfl (Nat.le_of_ble_eq_true rfl) dL_law_317 ⟨Nat.le_of_ble_eq_true rfl, Nat.le_of_ble_eq_true rfl⟩) (fun r1 S1 H locs q1 J => ?_)
  refine lv_aload_n X.1 X.2.1 dL_law_320 rfl (lv_at hl 2 rfl) ?_
  refine lw_M J (runV (As := []) (rest := [.int (iI r1)]) X (k_X10_roll l M U   (MI_J hJ)) (gdC tb_887 (gdC tb_888 (gdC tb_889 (gdC tb_48 (gdC tb_890 gdB))))) ⟨ok_X10_roll, ⟨Nat.le_of_ble_eq_true rfl, Nat.le_of_ble_eq_true rfl⟩, rfl, rfl⟩ (LJ.preM (C := RX10) (T := TX10) (N := 41) J atM_model rfl) rfl hl.1 rfl (Nat.le_of_ble_eq_true rfl) dL_law_321 ⟨Nat.le_of_ble_eq_true rfl, Nat.le_of_ble_eq_true rfl⟩) (fun r2 U1 H locs q2 J => ?_)
  obtain ⟨e9, hJ1⟩ := op_roll hJ (by omega) q1 q2
  refine lv_icmp_eq (tgt := 750) X.1 X.2.1 dL_law_324 (by decide) (fun _ => ?_) (fun z => absurd (by rw [e9]) z)
  exact nx _ _ _ _ hJ1 J
set_option maxRecDepth 100000 in
set_option maxHeartbeats 4000000 in
theorem law_word {p : Program} {l : Launch} {e : Env} {s : State} {m : MethodId} {below : List Frame} {meth : Method} {c : Code} {b L : Nat} {xs : Nat → Int32} {G M : Ge} (X : CallFix p m c cL_law 4 s #[Value.ref b] TB "NameSeekerLaw") (hX : va_X b L xs s s.heap) (hbl : b < s.heap.size) (hL : L ≤ 2048) {k : Nat} (hk : k < 512) (hkL : 4 * (k : Int) + 4 ≤ L) {S U : St} (hJ : JJ S U.1 k) {H : Heap} {locs : List Loc} (J : LJ G M s H locs S U) {ls : Array Slot} (hl : lv_has ls 4 (LL_ G M b k)) (nx : ∀ (S1 U1 : St) (H : Heap) (locs : List Loc), JJ S1 U1.1 ((k : Int) + 1) → LJ G M s H locs S1 U1 → LW_ p l e s m below meth c b H locs (F0 m 750 ls [])) : LW_ p l e s m below meth c b H locs (F0 m 329 ls []) := by
  refine lv_aload_n X.1 X.2.1 dL_law_329 rfl (lv_at hl 1 rfl) ?_
  refine w_arg X hX hbl hL J.2.2.2.2 hl (j := 1) (by omega) (by omega) (by omega) dL_law_330 dL_law_331 dL_law_332 dL_law_333 dL_law_334 ?_
  refine lw_C J (runV (As := [.int (iI (xv xs (4 * (k : Int) + 1)))]) (rest := []) X (k_X9_word l G S (xv xs (4 * (k : Int) + 1)) (xv_r xs _) k (CI_J hJ)) (gdC tb_503 (gdC tb_504 (gdC tb_505 (gdC tb_34 (gdC tb_506 gdB))))) ⟨ok_X9_word, ⟨Nat.le_of_ble_eq_true rfl, Nat.le_of_ble_eq_true rfl⟩, rfl, rfl⟩ (LJ.preC (C := RX9) (T := TX9) (N := 14) J atC_ns rfl) rfl hl.1 rfl (Nat.le_of_ble_eq_true rfl) dL_law_335 ⟨Nat.le_of_ble_eq_true rfl, Nat.le_of_ble_eq_true rfl⟩) (fun r1 S1 H locs q1 J => ?_)
  refine lv_aload_n X.1 X.2.1 dL_law_338 rfl (lv_at hl 2 rfl) ?_
  refine w_arg X hX hbl hL J.2.2.2.2 hl (j := 1) (by omega) (by omega) (by omega) dL_law_339 dL_law_340 dL_law_341 dL_law_342 dL_law_343 ?_
  refine lw_M J (runV (As := [.int (iI (xv xs (4 * (k : Int) + 1)))]) (rest := [.int (iI r1)]) X (k_X10_word l M U (xv xs (4 * (k : Int) + 1)) (xv_r xs _) (MI_J hJ)) (gdC tb_892 (gdC tb_893 (gdC tb_894 (gdC tb_48 (gdC tb_895 gdB))))) ⟨ok_X10_word, ⟨Nat.le_of_ble_eq_true rfl, Nat.le_of_ble_eq_true rfl⟩, rfl, rfl⟩ (LJ.preM (C := RX10) (T := TX10) (N := 41) J atM_model rfl) rfl hl.1 rfl (Nat.le_of_ble_eq_true rfl) dL_law_344 ⟨Nat.le_of_ble_eq_true rfl, Nat.le_of_ble_eq_true rfl⟩) (fun r2 U1 H locs q2 J => ?_)
  obtain ⟨e9, hJ1⟩ := op_word hJ (by omega) q1 q2
  refine lv_icmp_eq (tgt := 750) X.1 X.2.1 dL_law_347 (by decide) (fun _ => ?_) (fun z => absurd (by rw [e9]) z)
  exact nx _ _ _ _ hJ1 J
set_option maxRecDepth 100000 in
set_option maxHeartbeats 4000000 in
theorem law_pick {p : Program} {l : Launch} {e : Env} {s : State} {m : MethodId} {below : List Frame} {meth : Method} {c : Code} {b L : Nat} {xs : Nat → Int32} {G M : Ge} (X : CallFix p m c cL_law 4 s #[Value.ref b] TB "NameSeekerLaw") (hX : va_X b L xs s s.heap) (hbl : b < s.heap.size) (hL : L ≤ 2048) {k : Nat} (hk : k < 512) (hkL : 4 * (k : Int) + 4 ≤ L) {S U : St} (hJ : JJ S U.1 k) {H : Heap} {locs : List Loc} (J : LJ G M s H locs S U) {ls : Array Slot} (hl : lv_has ls 4 (LL_ G M b k)) (nx : ∀ (S1 U1 : St) (H : Heap) (locs : List Loc), JJ S1 U1.1 ((k : Int) + 1) → LJ G M s H locs S1 U1 → LW_ p l e s m below meth c b H locs (F0 m 750 ls [])) : LW_ p l e s m below meth c b H locs (F0 m 352 ls []) := by
  refine lv_aload_n X.1 X.2.1 dL_law_352 rfl (lv_at hl 1 rfl) ?_
  refine w_arg X hX hbl hL J.2.2.2.2 hl (j := 1) (by omega) (by omega) (by omega) dL_law_353 dL_law_354 dL_law_355 dL_law_356 dL_law_357 ?_
  refine lw_C J (runV (As := [.int (iI (xv xs (4 * (k : Int) + 1)))]) (rest := []) X (k_X9_pick l G S (xv xs (4 * (k : Int) + 1)) (xv_r xs _) k (CI_J hJ)) (gdC tb_507 (gdC tb_508 (gdC tb_509 (gdC tb_34 (gdC tb_510 gdB))))) ⟨ok_X9_pick, ⟨Nat.le_of_ble_eq_true rfl, Nat.le_of_ble_eq_true rfl⟩, rfl, rfl⟩ (LJ.preC (C := RX9) (T := TX9) (N := 14) J atC_ns rfl) rfl hl.1 rfl (Nat.le_of_ble_eq_true rfl) dL_law_358 ⟨Nat.le_of_ble_eq_true rfl, Nat.le_of_ble_eq_true rfl⟩) (fun r1 S1 H locs q1 J => ?_)
  refine lv_aload_n X.1 X.2.1 dL_law_361 rfl (lv_at hl 2 rfl) ?_
  refine w_arg X hX hbl hL J.2.2.2.2 hl (j := 1) (by omega) (by omega) (by omega) dL_law_362 dL_law_363 dL_law_364 dL_law_365 dL_law_366 ?_
  refine lw_M J (runV (As := [.int (iI (xv xs (4 * (k : Int) + 1)))]) (rest := [.int (iI r1)]) X (k_X10_pick l M U (xv xs (4 * (k : Int) + 1)) (xv_r xs _) (MI_J hJ)) (gdC tb_896 (gdC tb_897 (gdC tb_898 (gdC tb_48 (gdC tb_899 gdB))))) ⟨ok_X10_pick, ⟨Nat.le_of_ble_eq_true rfl, Nat.le_of_ble_eq_true rfl⟩, rfl, rfl⟩ (LJ.preM (C := RX10) (T := TX10) (N := 41) J atM_model rfl) rfl hl.1 rfl (Nat.le_of_ble_eq_true rfl) dL_law_367 ⟨Nat.le_of_ble_eq_true rfl, Nat.le_of_ble_eq_true rfl⟩) (fun r2 U1 H locs q2 J => ?_)
  obtain ⟨e9, hJ1⟩ := op_pick hJ (by omega) q1 q2
  refine lv_icmp_eq (tgt := 750) X.1 X.2.1 dL_law_370 (by decide) (fun _ => ?_) (fun z => absurd (by rw [e9]) z)
  exact nx _ _ _ _ hJ1 J
set_option maxRecDepth 100000 in
set_option maxHeartbeats 4000000 in
theorem law_forget {p : Program} {l : Launch} {e : Env} {s : State} {m : MethodId} {below : List Frame} {meth : Method} {c : Code} {b L : Nat} {xs : Nat → Int32} {G M : Ge} (X : CallFix p m c cL_law 4 s #[Value.ref b] TB "NameSeekerLaw") (hX : va_X b L xs s s.heap) (hbl : b < s.heap.size) (hL : L ≤ 2048) {k : Nat} (hk : k < 512) (hkL : 4 * (k : Int) + 4 ≤ L) {S U : St} (hJ : JJ S U.1 k) {H : Heap} {locs : List Loc} (J : LJ G M s H locs S U) {ls : Array Slot} (hl : lv_has ls 4 (LL_ G M b k)) (nx : ∀ (S1 U1 : St) (H : Heap) (locs : List Loc), JJ S1 U1.1 ((k : Int) + 1) → LJ G M s H locs S1 U1 → LW_ p l e s m below meth c b H locs (F0 m 750 ls [])) : LW_ p l e s m below meth c b H locs (F0 m 375 ls []) := by
  refine lv_aload_n X.1 X.2.1 dL_law_375 rfl (lv_at hl 1 rfl) ?_
  refine w_arg X hX hbl hL J.2.2.2.2 hl (j := 1) (by omega) (by omega) (by omega) dL_law_376 dL_law_377 dL_law_378 dL_law_379 dL_law_380 ?_
  refine lw_C J (runV (As := [.int (iI (xv xs (4 * (k : Int) + 1)))]) (rest := []) X (k_X9_forget l G S (xv xs (4 * (k : Int) + 1)) (xv_r xs _) k (CI_J hJ)) (gdC tb_511 (gdC tb_512 (gdC tb_513 (gdC tb_34 (gdC tb_514 gdB))))) ⟨ok_X9_forget, ⟨Nat.le_of_ble_eq_true rfl, Nat.le_of_ble_eq_true rfl⟩, rfl, rfl⟩ (LJ.preC (C := RX9) (T := TX9) (N := 14) J atC_ns rfl) rfl hl.1 rfl (Nat.le_of_ble_eq_true rfl) dL_law_381 ⟨Nat.le_of_ble_eq_true rfl, Nat.le_of_ble_eq_true rfl⟩) (fun r1 S1 H locs q1 J => ?_)
  refine lv_aload_n X.1 X.2.1 dL_law_384 rfl (lv_at hl 2 rfl) ?_
  refine w_arg X hX hbl hL J.2.2.2.2 hl (j := 1) (by omega) (by omega) (by omega) dL_law_385 dL_law_386 dL_law_387 dL_law_388 dL_law_389 ?_
  refine lw_M J (runV (As := [.int (iI (xv xs (4 * (k : Int) + 1)))]) (rest := [.int (iI r1)]) X (k_X10_forget l M U (xv xs (4 * (k : Int) + 1)) (xv_r xs _) (MI_J hJ)) (gdC tb_900 (gdC tb_901 (gdC tb_902 (gdC tb_48 (gdC tb_903 gdB))))) ⟨ok_X10_forget, ⟨Nat.le_of_ble_eq_true rfl, Nat.le_of_ble_eq_true rfl⟩, rfl, rfl⟩ (LJ.preM (C := RX10) (T := TX10) (N := 41) J atM_model rfl) rfl hl.1 rfl (Nat.le_of_ble_eq_true rfl) dL_law_390 ⟨Nat.le_of_ble_eq_true rfl, Nat.le_of_ble_eq_true rfl⟩) (fun r2 U1 H locs q2 J => ?_)
  obtain ⟨e9, hJ1⟩ := op_forget hJ (by omega) q1 q2
  refine lv_icmp_eq (tgt := 750) X.1 X.2.1 dL_law_393 (by decide) (fun _ => ?_) (fun z => absurd (by rw [e9]) z)
  exact nx _ _ _ _ hJ1 J
set_option maxRecDepth 100000 in
set_option maxHeartbeats 4000000 in
theorem law_drop {p : Program} {l : Launch} {e : Env} {s : State} {m : MethodId} {below : List Frame} {meth : Method} {c : Code} {b L : Nat} {xs : Nat → Int32} {G M : Ge} (X : CallFix p m c cL_law 4 s #[Value.ref b] TB "NameSeekerLaw") (hX : va_X b L xs s s.heap) (hbl : b < s.heap.size) (hL : L ≤ 2048) {k : Nat} (hk : k < 512) (hkL : 4 * (k : Int) + 4 ≤ L) {S U : St} (hJ : JJ S U.1 k) {H : Heap} {locs : List Loc} (J : LJ G M s H locs S U) {ls : Array Slot} (hl : lv_has ls 4 (LL_ G M b k)) (nx : ∀ (S1 U1 : St) (H : Heap) (locs : List Loc), JJ S1 U1.1 ((k : Int) + 1) → LJ G M s H locs S1 U1 → LW_ p l e s m below meth c b H locs (F0 m 750 ls [])) : LW_ p l e s m below meth c b H locs (F0 m 398 ls []) := by
  refine lv_aload_n X.1 X.2.1 dL_law_398 rfl (lv_at hl 1 rfl) ?_
  refine w_arg X hX hbl hL J.2.2.2.2 hl (j := 1) (by omega) (by omega) (by omega) dL_law_399 dL_law_400 dL_law_401 dL_law_402 dL_law_403 ?_
  refine lw_C J (runV (As := [.int (iI (xv xs (4 * (k : Int) + 1)))]) (rest := []) X (k_X9_drop l G S (xv xs (4 * (k : Int) + 1)) (xv_r xs _) k (CI_J hJ)) (gdC tb_515 (gdC tb_516 (gdC tb_517 (gdC tb_34 (gdC tb_518 gdB))))) ⟨ok_X9_drop, ⟨Nat.le_of_ble_eq_true rfl, Nat.le_of_ble_eq_true rfl⟩, rfl, rfl⟩ (LJ.preC (C := RX9) (T := TX9) (N := 14) J atC_ns rfl) rfl hl.1 rfl (Nat.le_of_ble_eq_true rfl) dL_law_404 ⟨Nat.le_of_ble_eq_true rfl, Nat.le_of_ble_eq_true rfl⟩) (fun r1 S1 H locs q1 J => ?_)
  refine lv_aload_n X.1 X.2.1 dL_law_407 rfl (lv_at hl 2 rfl) ?_
  refine w_arg X hX hbl hL J.2.2.2.2 hl (j := 1) (by omega) (by omega) (by omega) dL_law_408 dL_law_409 dL_law_410 dL_law_411 dL_law_412 ?_
  refine lw_M J (runV (As := [.int (iI (xv xs (4 * (k : Int) + 1)))]) (rest := [.int (iI r1)]) X (k_X10_drop l M U (xv xs (4 * (k : Int) + 1)) (xv_r xs _) (MI_J hJ)) (gdC tb_904 (gdC tb_905 (gdC tb_906 (gdC tb_48 (gdC tb_907 gdB))))) ⟨ok_X10_drop, ⟨Nat.le_of_ble_eq_true rfl, Nat.le_of_ble_eq_true rfl⟩, rfl, rfl⟩ (LJ.preM (C := RX10) (T := TX10) (N := 41) J atM_model rfl) rfl hl.1 rfl (Nat.le_of_ble_eq_true rfl) dL_law_413 ⟨Nat.le_of_ble_eq_true rfl, Nat.le_of_ble_eq_true rfl⟩) (fun r2 U1 H locs q2 J => ?_)
  obtain ⟨e9, hJ1⟩ := op_drop hJ (by omega) q1 q2
  refine lv_icmp_eq (tgt := 750) X.1 X.2.1 dL_law_416 (by decide) (fun _ => ?_) (fun z => absurd (by rw [e9]) z)
  exact nx _ _ _ _ hJ1 J
set_option maxRecDepth 100000 in
set_option maxHeartbeats 4000000 in
theorem law_rename {p : Program} {l : Launch} {e : Env} {s : State} {m : MethodId} {below : List Frame} {meth : Method} {c : Code} {b L : Nat} {xs : Nat → Int32} {G M : Ge} (X : CallFix p m c cL_law 4 s #[Value.ref b] TB "NameSeekerLaw") (hX : va_X b L xs s s.heap) (hbl : b < s.heap.size) (hL : L ≤ 2048) {k : Nat} (hk : k < 512) (hkL : 4 * (k : Int) + 4 ≤ L) {S U : St} (hJ : JJ S U.1 k) {H : Heap} {locs : List Loc} (J : LJ G M s H locs S U) {ls : Array Slot} (hl : lv_has ls 4 (LL_ G M b k)) (nx : ∀ (S1 U1 : St) (H : Heap) (locs : List Loc), JJ S1 U1.1 ((k : Int) + 1) → LJ G M s H locs S1 U1 → LW_ p l e s m below meth c b H locs (F0 m 750 ls [])) : LW_ p l e s m below meth c b H locs (F0 m 421 ls []) := by
  refine lv_aload_n X.1 X.2.1 dL_law_421 rfl (lv_at hl 1 rfl) ?_
  refine w_arg X hX hbl hL J.2.2.2.2 hl (j := 1) (by omega) (by omega) (by omega) dL_law_422 dL_law_423 dL_law_424 dL_law_425 dL_law_426 ?_
  refine w_arg X hX hbl hL J.2.2.2.2 hl (j := 2) (by omega) (by omega) (by omega) dL_law_427 dL_law_428 dL_law_429 dL_law_430 dL_law_431 ?_
  refine lw_C J (runV (As := [.int (iI (xv xs (4 * (k : Int) + 1))), .int (iI (xv xs (4 * (k : Int) + 2)))]) (rest := []) X (k_X9_rename l G S (xv xs (4 * (k : Int) + 1)) (xv xs (4 * (k : Int) + 2)) (xv_r xs _) (xv_r xs _) k (CI_J hJ)) (gdC tb_523 (gdC tb_524 (gdC tb_525 (gdC tb_34 (gdC tb_526 gdB))))) ⟨ok_X9_rename, ⟨Nat.le_of_ble_eq_true rfl, Nat.le_of_ble_eq_true rfl⟩, rfl, rfl⟩ (LJ.preC (C := RX9) (T := TX9) (N := 14) J atC_ns rfl) rfl hl.1 rfl (Nat.le_of_ble_eq_true rfl) dL_law_432 ⟨Nat.le_of_ble_eq_true rfl, Nat.le_of_ble_eq_true rfl⟩) (fun r1 S1 H locs q1 J => ?_)
  refine lv_aload_n X.1 X.2.1 dL_law_435 rfl (lv_at hl 2 rfl) ?_
  refine w_arg X hX hbl hL J.2.2.2.2 hl (j := 1) (by omega) (by omega) (by omega) dL_law_436 dL_law_437 dL_law_438 dL_law_439 dL_law_440 ?_
  refine w_arg X hX hbl hL J.2.2.2.2 hl (j := 2) (by omega) (by omega) (by omega) dL_law_441 dL_law_442 dL_law_443 dL_law_444 dL_law_445 ?_
  refine lw_M J (runV (As := [.int (iI (xv xs (4 * (k : Int) + 1))), .int (iI (xv xs (4 * (k : Int) + 2)))]) (rest := [.int (iI r1)]) X (k_X10_rename l M U (xv xs (4 * (k : Int) + 1)) (xv xs (4 * (k : Int) + 2)) (xv_r xs _) (xv_r xs _) (MI_J hJ)) (gdC tb_908 (gdC tb_909 (gdC tb_910 (gdC tb_48 (gdC tb_911 gdB))))) ⟨ok_X10_rename, ⟨Nat.le_of_ble_eq_true rfl, Nat.le_of_ble_eq_true rfl⟩, rfl, rfl⟩ (LJ.preM (C := RX10) (T := TX10) (N := 41) J atM_model rfl) rfl hl.1 rfl (Nat.le_of_ble_eq_true rfl) dL_law_446 ⟨Nat.le_of_ble_eq_true rfl, Nat.le_of_ble_eq_true rfl⟩) (fun r2 U1 H locs q2 J => ?_)
  obtain ⟨e9, hJ1⟩ := op_rename hJ (by omega) q1 q2
  refine lv_icmp_eq (tgt := 750) X.1 X.2.1 dL_law_449 (by decide) (fun _ => ?_) (fun z => absurd (by rw [e9]) z)
  exact nx _ _ _ _ hJ1 J
set_option maxRecDepth 100000 in
set_option maxHeartbeats 4000000 in
theorem law_worth {p : Program} {l : Launch} {e : Env} {s : State} {m : MethodId} {below : List Frame} {meth : Method} {c : Code} {b L : Nat} {xs : Nat → Int32} {G M : Ge} (X : CallFix p m c cL_law 4 s #[Value.ref b] TB "NameSeekerLaw") (hX : va_X b L xs s s.heap) (hbl : b < s.heap.size) (hL : L ≤ 2048) {k : Nat} (hk : k < 512) (hkL : 4 * (k : Int) + 4 ≤ L) {S U : St} (hJ : JJ S U.1 k) {H : Heap} {locs : List Loc} (J : LJ G M s H locs S U) {ls : Array Slot} (hl : lv_has ls 4 (LL_ G M b k)) (nx : ∀ (S1 U1 : St) (H : Heap) (locs : List Loc), JJ S1 U1.1 ((k : Int) + 1) → LJ G M s H locs S1 U1 → LW_ p l e s m below meth c b H locs (F0 m 750 ls [])) : LW_ p l e s m below meth c b H locs (F0 m 454 ls []) := by
  refine lv_aload_n X.1 X.2.1 dL_law_454 rfl (lv_at hl 1 rfl) ?_
  refine w_arg X hX hbl hL J.2.2.2.2 hl (j := 1) (by omega) (by omega) (by omega) dL_law_455 dL_law_456 dL_law_457 dL_law_458 dL_law_459 ?_
  refine w_arg X hX hbl hL J.2.2.2.2 hl (j := 2) (by omega) (by omega) (by omega) dL_law_460 dL_law_461 dL_law_462 dL_law_463 dL_law_464 ?_
  refine w_arg X hX hbl hL J.2.2.2.2 hl (j := 3) (by omega) (by omega) (by omega) dL_law_465 dL_law_466 dL_law_467 dL_law_468 dL_law_469 ?_
  refine lw_C J (runV (As := [.int (iI (xv xs (4 * (k : Int) + 1))), .int (iI (xv xs (4 * (k : Int) + 2))), .int (iI (xv xs (4 * (k : Int) + 3)))]) (rest := []) X (k_X9_worth l G S (xv xs (4 * (k : Int) + 1)) (xv xs (4 * (k : Int) + 2)) (xv xs (4 * (k : Int) + 3)) (xv_r xs _) (xv_r xs _) (xv_r xs _) k (CI_J hJ)) (gdC tb_527 (gdC tb_528 (gdC tb_529 (gdC tb_34 (gdC tb_530 gdB))))) ⟨ok_X9_worth, ⟨Nat.le_of_ble_eq_true rfl, Nat.le_of_ble_eq_true rfl⟩, rfl, rfl⟩ (LJ.preC (C := RX9) (T := TX9) (N := 14) J atC_ns rfl) rfl hl.1 rfl (Nat.le_of_ble_eq_true rfl) dL_law_470 ⟨Nat.le_of_ble_eq_true rfl, Nat.le_of_ble_eq_true rfl⟩) (fun r1 S1 H locs q1 J => ?_)
  refine lv_aload_n X.1 X.2.1 dL_law_473 rfl (lv_at hl 2 rfl) ?_
  refine w_arg X hX hbl hL J.2.2.2.2 hl (j := 1) (by omega) (by omega) (by omega) dL_law_474 dL_law_475 dL_law_476 dL_law_477 dL_law_478 ?_
  refine w_arg X hX hbl hL J.2.2.2.2 hl (j := 2) (by omega) (by omega) (by omega) dL_law_479 dL_law_480 dL_law_481 dL_law_482 dL_law_483 ?_
  refine w_arg X hX hbl hL J.2.2.2.2 hl (j := 3) (by omega) (by omega) (by omega) dL_law_484 dL_law_485 dL_law_486 dL_law_487 dL_law_488 ?_
  refine lw_M J (runV (As := [.int (iI (xv xs (4 * (k : Int) + 1))), .int (iI (xv xs (4 * (k : Int) + 2))), .int (iI (xv xs (4 * (k : Int) + 3)))]) (rest := [.int (iI r1)]) X (k_X10_worth l M U (xv xs (4 * (k : Int) + 1)) (xv xs (4 * (k : Int) + 2)) (xv xs (4 * (k : Int) + 3)) (xv_r xs _) (xv_r xs _) (xv_r xs _) (MI_J hJ)) (gdC tb_912 (gdC tb_913 (gdC tb_914 (gdC tb_48 (gdC tb_915 gdB))))) ⟨ok_X10_worth, ⟨Nat.le_of_ble_eq_true rfl, Nat.le_of_ble_eq_true rfl⟩, rfl, rfl⟩ (LJ.preM (C := RX10) (T := TX10) (N := 41) J atM_model rfl) rfl hl.1 rfl (Nat.le_of_ble_eq_true rfl) dL_law_489 ⟨Nat.le_of_ble_eq_true rfl, Nat.le_of_ble_eq_true rfl⟩) (fun r2 U1 H locs q2 J => ?_)
  obtain ⟨e9, hJ1⟩ := op_worth hJ (by omega) q1 q2
  refine lv_icmp_eq (tgt := 750) X.1 X.2.1 dL_law_492 (by decide) (fun _ => ?_) (fun z => absurd (by rw [e9]) z)
  exact nx _ _ _ _ hJ1 J
set_option maxRecDepth 100000 in
set_option maxHeartbeats 4000000 in
theorem law_score {p : Program} {l : Launch} {e : Env} {s : State} {m : MethodId} {below : List Frame} {meth : Method} {c : Code} {b L : Nat} {xs : Nat → Int32} {G M : Ge} (X : CallFix p m c cL_law 4 s #[Value.ref b] TB "NameSeekerLaw") (hX : va_X b L xs s s.heap) (hbl : b < s.heap.size) (hL : L ≤ 2048) {k : Nat} (hk : k < 512) (hkL : 4 * (k : Int) + 4 ≤ L) {S U : St} (hJ : JJ S U.1 k) {H : Heap} {locs : List Loc} (J : LJ G M s H locs S U) {ls : Array Slot} (hl : lv_has ls 4 (LL_ G M b k)) (nx : ∀ (S1 U1 : St) (H : Heap) (locs : List Loc), JJ S1 U1.1 ((k : Int) + 1) → LJ G M s H locs S1 U1 → LW_ p l e s m below meth c b H locs (F0 m 750 ls [])) : LW_ p l e s m below meth c b H locs (F0 m 497 ls []) := by
  refine lv_aload_n X.1 X.2.1 dL_law_497 rfl (lv_at hl 1 rfl) ?_
  refine w_arg X hX hbl hL J.2.2.2.2 hl (j := 1) (by omega) (by omega) (by omega) dL_law_498 dL_law_499 dL_law_500 dL_law_501 dL_law_502 ?_
  refine lw_C J (runV (As := [.int (iI (xv xs (4 * (k : Int) + 1)))]) (rest := []) X (k_X9_score l G S (xv xs (4 * (k : Int) + 1)) (xv_r xs _) k (CI_J hJ)) (gdC tb_538 (gdC tb_539 (gdC tb_540 (gdC tb_34 (gdC tb_541 gdB))))) ⟨ok_X9_score, ⟨Nat.le_of_ble_eq_true rfl, Nat.le_of_ble_eq_true rfl⟩, rfl, rfl⟩ (LJ.preC (C := RX9) (T := TX9) (N := 14) J atC_ns rfl) rfl hl.1 rfl (Nat.le_of_ble_eq_true rfl) dL_law_503 ⟨Nat.le_of_ble_eq_true rfl, Nat.le_of_ble_eq_true rfl⟩) (fun r1 S1 H locs q1 J => ?_)
  refine lv_aload_n X.1 X.2.1 dL_law_506 rfl (lv_at hl 2 rfl) ?_
  refine w_arg X hX hbl hL J.2.2.2.2 hl (j := 1) (by omega) (by omega) (by omega) dL_law_507 dL_law_508 dL_law_509 dL_law_510 dL_law_511 ?_
  refine lw_M J (runV (As := [.int (iI (xv xs (4 * (k : Int) + 1)))]) (rest := [.int (iI r1)]) X (k_X10_score l M U (xv xs (4 * (k : Int) + 1)) (xv_r xs _) (MI_J hJ)) (gdC tb_916 (gdC tb_917 (gdC tb_918 (gdC tb_48 (gdC tb_919 gdB))))) ⟨ok_X10_score, ⟨Nat.le_of_ble_eq_true rfl, Nat.le_of_ble_eq_true rfl⟩, rfl, rfl⟩ (LJ.preM (C := RX10) (T := TX10) (N := 41) J atM_model rfl) rfl hl.1 rfl (Nat.le_of_ble_eq_true rfl) dL_law_512 ⟨Nat.le_of_ble_eq_true rfl, Nat.le_of_ble_eq_true rfl⟩) (fun r2 U1 H locs q2 J => ?_)
  obtain ⟨e9, hJ1⟩ := op_score hJ (by omega) q1 q2
  refine lv_icmp_eq (tgt := 750) X.1 X.2.1 dL_law_515 (by decide) (fun _ => ?_) (fun z => absurd (by rw [e9]) z)
  exact nx _ _ _ _ hJ1 J
set_option maxRecDepth 100000 in
set_option maxHeartbeats 4000000 in
theorem law_list {p : Program} {l : Launch} {e : Env} {s : State} {m : MethodId} {below : List Frame} {meth : Method} {c : Code} {b L : Nat} {xs : Nat → Int32} {G M : Ge} (X : CallFix p m c cL_law 4 s #[Value.ref b] TB "NameSeekerLaw") (hX : va_X b L xs s s.heap) (hbl : b < s.heap.size) (hL : L ≤ 2048) {k : Nat} (hk : k < 512) (hkL : 4 * (k : Int) + 4 ≤ L) {S U : St} (hJ : JJ S U.1 k) {H : Heap} {locs : List Loc} (J : LJ G M s H locs S U) {ls : Array Slot} (hl : lv_has ls 4 (LL_ G M b k)) (nx : ∀ (S1 U1 : St) (H : Heap) (locs : List Loc), JJ S1 U1.1 ((k : Int) + 1) → LJ G M s H locs S1 U1 → LW_ p l e s m below meth c b H locs (F0 m 750 ls [])) : LW_ p l e s m below meth c b H locs (F0 m 520 ls []) := by
  refine lv_aload_n X.1 X.2.1 dL_law_520 rfl (lv_at hl 1 rfl) ?_
  refine w_arg X hX hbl hL J.2.2.2.2 hl (j := 1) (by omega) (by omega) (by omega) dL_law_521 dL_law_522 dL_law_523 dL_law_524 dL_law_525 ?_
  refine lw_C J (runV (As := [.int (iI (xv xs (4 * (k : Int) + 1)))]) (rest := []) X (k_X9_list l G S (xv xs (4 * (k : Int) + 1)) (xv_r xs _) k (CI_J hJ)) (gdC tb_590 (gdC tb_591 (gdC tb_592 (gdC tb_34 (gdC tb_593 gdB))))) ⟨ok_X9_list, ⟨Nat.le_of_ble_eq_true rfl, Nat.le_of_ble_eq_true rfl⟩, rfl, rfl⟩ (LJ.preC (C := RX9) (T := TX9) (N := 14) J atC_ns rfl) rfl hl.1 rfl (Nat.le_of_ble_eq_true rfl) dL_law_526 ⟨Nat.le_of_ble_eq_true rfl, Nat.le_of_ble_eq_true rfl⟩) (fun r1 S1 H locs q1 J => ?_)
  refine lv_aload_n X.1 X.2.1 dL_law_529 rfl (lv_at hl 2 rfl) ?_
  refine w_arg X hX hbl hL J.2.2.2.2 hl (j := 1) (by omega) (by omega) (by omega) dL_law_530 dL_law_531 dL_law_532 dL_law_533 dL_law_534 ?_
  refine lw_M J (runV (As := [.int (iI (xv xs (4 * (k : Int) + 1)))]) (rest := [.int (iI r1)]) X (k_X10_list l M U (xv xs (4 * (k : Int) + 1)) (xv_r xs _) (MI_J hJ)) (gdC tb_959 (gdC tb_960 (gdC tb_961 (gdC tb_48 (gdC tb_962 gdB))))) ⟨ok_X10_list, ⟨Nat.le_of_ble_eq_true rfl, Nat.le_of_ble_eq_true rfl⟩, rfl, rfl⟩ (LJ.preM (C := RX10) (T := TX10) (N := 41) J atM_model rfl) rfl hl.1 rfl (Nat.le_of_ble_eq_true rfl) dL_law_535 ⟨Nat.le_of_ble_eq_true rfl, Nat.le_of_ble_eq_true rfl⟩) (fun r2 U1 H locs q2 J => ?_)
  obtain ⟨e9, hJ1⟩ := op_list hJ (by omega) q1 q2
  refine lv_icmp_eq (tgt := 750) X.1 X.2.1 dL_law_538 (by decide) (fun _ => ?_) (fun z => absurd (by rw [e9]) z)
  exact nx _ _ _ _ hJ1 J
set_option maxRecDepth 100000 in
set_option maxHeartbeats 4000000 in
theorem law_best {p : Program} {l : Launch} {e : Env} {s : State} {m : MethodId} {below : List Frame} {meth : Method} {c : Code} {b L : Nat} {xs : Nat → Int32} {G M : Ge} (X : CallFix p m c cL_law 4 s #[Value.ref b] TB "NameSeekerLaw") (hX : va_X b L xs s s.heap) (hbl : b < s.heap.size) (hL : L ≤ 2048) {k : Nat} (hk : k < 512) (hkL : 4 * (k : Int) + 4 ≤ L) {S U : St} (hJ : JJ S U.1 k) {H : Heap} {locs : List Loc} (J : LJ G M s H locs S U) {ls : Array Slot} (hl : lv_has ls 4 (LL_ G M b k)) (nx : ∀ (S1 U1 : St) (H : Heap) (locs : List Loc), JJ S1 U1.1 ((k : Int) + 1) → LJ G M s H locs S1 U1 → LW_ p l e s m below meth c b H locs (F0 m 750 ls [])) : LW_ p l e s m below meth c b H locs (F0 m 543 ls []) := by
  refine lv_aload_n X.1 X.2.1 dL_law_543 rfl (lv_at hl 1 rfl) ?_
  refine w_arg X hX hbl hL J.2.2.2.2 hl (j := 1) (by omega) (by omega) (by omega) dL_law_544 dL_law_545 dL_law_546 dL_law_547 dL_law_548 ?_
  refine w_arg X hX hbl hL J.2.2.2.2 hl (j := 2) (by omega) (by omega) (by omega) dL_law_549 dL_law_550 dL_law_551 dL_law_552 dL_law_553 ?_
  refine lw_C J (runV (As := [.int (iI (xv xs (4 * (k : Int) + 1))), .int (iI (xv xs (4 * (k : Int) + 2)))]) (rest := []) X (k_X9_best l G S (xv xs (4 * (k : Int) + 1)) (xv xs (4 * (k : Int) + 2)) (xv_r xs _) (xv_r xs _) k (CI_J hJ)) (gdC tb_625 (gdC tb_626 (gdC tb_627 (gdC tb_34 (gdC tb_628 gdB))))) ⟨ok_X9_best, ⟨Nat.le_of_ble_eq_true rfl, Nat.le_of_ble_eq_true rfl⟩, rfl, rfl⟩ (LJ.preC (C := RX9) (T := TX9) (N := 14) J atC_ns rfl) rfl hl.1 rfl (Nat.le_of_ble_eq_true rfl) dL_law_554 ⟨Nat.le_of_ble_eq_true rfl, Nat.le_of_ble_eq_true rfl⟩) (fun r1 S1 H locs q1 J => ?_)
  refine lv_aload_n X.1 X.2.1 dL_law_557 rfl (lv_at hl 2 rfl) ?_
  refine w_arg X hX hbl hL J.2.2.2.2 hl (j := 1) (by omega) (by omega) (by omega) dL_law_558 dL_law_559 dL_law_560 dL_law_561 dL_law_562 ?_
  refine w_arg X hX hbl hL J.2.2.2.2 hl (j := 2) (by omega) (by omega) (by omega) dL_law_563 dL_law_564 dL_law_565 dL_law_566 dL_law_567 ?_
  refine lw_M J (runV (As := [.int (iI (xv xs (4 * (k : Int) + 1))), .int (iI (xv xs (4 * (k : Int) + 2)))]) (rest := [.int (iI r1)]) X (k_X10_best l M U (xv xs (4 * (k : Int) + 1)) (xv xs (4 * (k : Int) + 2)) (xv_r xs _) (xv_r xs _) (MI_J hJ)) (gdC tb_979 (gdC tb_980 (gdC tb_981 (gdC tb_48 (gdC tb_982 gdB))))) ⟨ok_X10_best, ⟨Nat.le_of_ble_eq_true rfl, Nat.le_of_ble_eq_true rfl⟩, rfl, rfl⟩ (LJ.preM (C := RX10) (T := TX10) (N := 41) J atM_model rfl) rfl hl.1 rfl (Nat.le_of_ble_eq_true rfl) dL_law_568 ⟨Nat.le_of_ble_eq_true rfl, Nat.le_of_ble_eq_true rfl⟩) (fun r2 U1 H locs q2 J => ?_)
  obtain ⟨e9, hJ1⟩ := op_best hJ (by omega) q1 q2
  refine lv_icmp_eq (tgt := 750) X.1 X.2.1 dL_law_571 (by decide) (fun _ => ?_) (fun z => absurd (by rw [e9]) z)
  exact nx _ _ _ _ hJ1 J
set_option maxRecDepth 100000 in
set_option maxHeartbeats 4000000 in
theorem law_ways {p : Program} {l : Launch} {e : Env} {s : State} {m : MethodId} {below : List Frame} {meth : Method} {c : Code} {b L : Nat} {xs : Nat → Int32} {G M : Ge} (X : CallFix p m c cL_law 4 s #[Value.ref b] TB "NameSeekerLaw") (hX : va_X b L xs s s.heap) (hbl : b < s.heap.size) (hL : L ≤ 2048) {k : Nat} (hk : k < 512) (hkL : 4 * (k : Int) + 4 ≤ L) {S U : St} (hJ : JJ S U.1 k) {H : Heap} {locs : List Loc} (J : LJ G M s H locs S U) {ls : Array Slot} (hl : lv_has ls 4 (LL_ G M b k)) (nx : ∀ (S1 U1 : St) (H : Heap) (locs : List Loc), JJ S1 U1.1 ((k : Int) + 1) → LJ G M s H locs S1 U1 → LW_ p l e s m below meth c b H locs (F0 m 750 ls [])) : LW_ p l e s m below meth c b H locs (F0 m 576 ls []) := by
  refine lv_aload_n X.1 X.2.1 dL_law_576 rfl (lv_at hl 1 rfl) ?_
  refine w_arg X hX hbl hL J.2.2.2.2 hl (j := 1) (by omega) (by omega) (by omega) dL_law_577 dL_law_578 dL_law_579 dL_law_580 dL_law_581 ?_
  refine lw_C J (runV (As := [.int (iI (xv xs (4 * (k : Int) + 1)))]) (rest := []) X (k_X9_ways l G S (xv xs (4 * (k : Int) + 1)) (xv_r xs _) k (CI_J hJ)) (gdC tb_633 (gdC tb_634 (gdC tb_635 (gdC tb_34 (gdC tb_636 gdB))))) ⟨ok_X9_ways, ⟨Nat.le_of_ble_eq_true rfl, Nat.le_of_ble_eq_true rfl⟩, rfl, rfl⟩ (LJ.preC (C := RX9) (T := TX9) (N := 14) J atC_ns rfl) rfl hl.1 rfl (Nat.le_of_ble_eq_true rfl) dL_law_582 ⟨Nat.le_of_ble_eq_true rfl, Nat.le_of_ble_eq_true rfl⟩) (fun r1 S1 H locs q1 J => ?_)
  refine lv_aload_n X.1 X.2.1 dL_law_585 rfl (lv_at hl 2 rfl) ?_
  refine w_arg X hX hbl hL J.2.2.2.2 hl (j := 1) (by omega) (by omega) (by omega) dL_law_586 dL_law_587 dL_law_588 dL_law_589 dL_law_590 ?_
  refine lw_M J (runV (As := [.int (iI (xv xs (4 * (k : Int) + 1)))]) (rest := [.int (iI r1)]) X (k_X10_ways l M U (xv xs (4 * (k : Int) + 1)) (xv_r xs _) (MI_J hJ)) (gdC tb_983 (gdC tb_984 (gdC tb_985 (gdC tb_48 (gdC tb_986 gdB))))) ⟨ok_X10_ways, ⟨Nat.le_of_ble_eq_true rfl, Nat.le_of_ble_eq_true rfl⟩, rfl, rfl⟩ (LJ.preM (C := RX10) (T := TX10) (N := 41) J atM_model rfl) rfl hl.1 rfl (Nat.le_of_ble_eq_true rfl) dL_law_591 ⟨Nat.le_of_ble_eq_true rfl, Nat.le_of_ble_eq_true rfl⟩) (fun r2 U1 H locs q2 J => ?_)
  obtain ⟨e9, hJ1⟩ := op_ways hJ (by omega) q1 q2
  refine lv_icmp_eq (tgt := 750) X.1 X.2.1 dL_law_594 (by decide) (fun _ => ?_) (fun z => absurd (by rw [e9]) z)
  exact nx _ _ _ _ hJ1 J
set_option maxRecDepth 100000 in
set_option maxHeartbeats 4000000 in
theorem law_passes {p : Program} {l : Launch} {e : Env} {s : State} {m : MethodId} {below : List Frame} {meth : Method} {c : Code} {b L : Nat} {xs : Nat → Int32} {G M : Ge} (X : CallFix p m c cL_law 4 s #[Value.ref b] TB "NameSeekerLaw") (hX : va_X b L xs s s.heap) (hbl : b < s.heap.size) (hL : L ≤ 2048) {k : Nat} (hk : k < 512) (hkL : 4 * (k : Int) + 4 ≤ L) {S U : St} (hJ : JJ S U.1 k) {H : Heap} {locs : List Loc} (J : LJ G M s H locs S U) {ls : Array Slot} (hl : lv_has ls 4 (LL_ G M b k)) (nx : ∀ (S1 U1 : St) (H : Heap) (locs : List Loc), JJ S1 U1.1 ((k : Int) + 1) → LJ G M s H locs S1 U1 → LW_ p l e s m below meth c b H locs (F0 m 750 ls [])) : LW_ p l e s m below meth c b H locs (F0 m 599 ls []) := by
  refine lv_aload_n X.1 X.2.1 dL_law_599 rfl (lv_at hl 1 rfl) ?_
  refine w_arg X hX hbl hL J.2.2.2.2 hl (j := 1) (by omega) (by omega) (by omega) dL_law_600 dL_law_601 dL_law_602 dL_law_603 dL_law_604 ?_
  refine lw_C J (runV (As := [.int (iI (xv xs (4 * (k : Int) + 1)))]) (rest := []) X (k_X9_passes l G S (xv xs (4 * (k : Int) + 1)) (xv_r xs _) k (CI_J hJ)) (gdC tb_641 (gdC tb_642 (gdC tb_643 (gdC tb_34 (gdC tb_644 gdB))))) ⟨ok_X9_passes, ⟨Nat.le_of_ble_eq_true rfl, Nat.le_of_ble_eq_true rfl⟩, rfl, rfl⟩ (LJ.preC (C := RX9) (T := TX9) (N := 14) J atC_ns rfl) rfl hl.1 rfl (Nat.le_of_ble_eq_true rfl) dL_law_605 ⟨Nat.le_of_ble_eq_true rfl, Nat.le_of_ble_eq_true rfl⟩) (fun r1 S1 H locs q1 J => ?_)
  refine lv_aload_n X.1 X.2.1 dL_law_608 rfl (lv_at hl 2 rfl) ?_
  refine w_arg X hX hbl hL J.2.2.2.2 hl (j := 1) (by omega) (by omega) (by omega) dL_law_609 dL_law_610 dL_law_611 dL_law_612 dL_law_613 ?_
  refine lw_M J (runV (As := [.int (iI (xv xs (4 * (k : Int) + 1)))]) (rest := [.int (iI r1)]) X (k_X10_passes l M U (xv xs (4 * (k : Int) + 1)) (xv_r xs _) (MI_J hJ)) (gdC tb_987 (gdC tb_988 (gdC tb_989 (gdC tb_48 (gdC tb_990 gdB))))) ⟨ok_X10_passes, ⟨Nat.le_of_ble_eq_true rfl, Nat.le_of_ble_eq_true rfl⟩, rfl, rfl⟩ (LJ.preM (C := RX10) (T := TX10) (N := 41) J atM_model rfl) rfl hl.1 rfl (Nat.le_of_ble_eq_true rfl) dL_law_614 ⟨Nat.le_of_ble_eq_true rfl, Nat.le_of_ble_eq_true rfl⟩) (fun r2 U1 H locs q2 J => ?_)
  obtain ⟨e9, hJ1⟩ := op_passes hJ (by omega) q1 q2
  refine lv_icmp_eq (tgt := 750) X.1 X.2.1 dL_law_617 (by decide) (fun _ => ?_) (fun z => absurd (by rw [e9]) z)
  exact nx _ _ _ _ hJ1 J
set_option maxRecDepth 100000 in
set_option maxHeartbeats 4000000 in
theorem law_asked {p : Program} {l : Launch} {e : Env} {s : State} {m : MethodId} {below : List Frame} {meth : Method} {c : Code} {b L : Nat} {xs : Nat → Int32} {G M : Ge} (X : CallFix p m c cL_law 4 s #[Value.ref b] TB "NameSeekerLaw") (hX : va_X b L xs s s.heap) (hbl : b < s.heap.size) (hL : L ≤ 2048) {k : Nat} (hk : k < 512) (hkL : 4 * (k : Int) + 4 ≤ L) {S U : St} (hJ : JJ S U.1 k) {H : Heap} {locs : List Loc} (J : LJ G M s H locs S U) {ls : Array Slot} (hl : lv_has ls 4 (LL_ G M b k)) (nx : ∀ (S1 U1 : St) (H : Heap) (locs : List Loc), JJ S1 U1.1 ((k : Int) + 1) → LJ G M s H locs S1 U1 → LW_ p l e s m below meth c b H locs (F0 m 750 ls [])) : LW_ p l e s m below meth c b H locs (F0 m 622 ls []) := by
  refine lv_aload_n X.1 X.2.1 dL_law_622 rfl (lv_at hl 1 rfl) ?_
  refine w_arg X hX hbl hL J.2.2.2.2 hl (j := 1) (by omega) (by omega) (by omega) dL_law_623 dL_law_624 dL_law_625 dL_law_626 dL_law_627 ?_
  refine lw_C J (runV (As := [.int (iI (xv xs (4 * (k : Int) + 1)))]) (rest := []) X (k_X9_asked l G S (xv xs (4 * (k : Int) + 1)) (xv_r xs _) k (CI_J hJ)) (gdC tb_645 (gdC tb_646 (gdC tb_647 (gdC tb_34 (gdC tb_648 gdB))))) ⟨ok_X9_asked, ⟨Nat.le_of_ble_eq_true rfl, Nat.le_of_ble_eq_true rfl⟩, rfl, rfl⟩ (LJ.preC (C := RX9) (T := TX9) (N := 14) J atC_ns rfl) rfl hl.1 rfl (Nat.le_of_ble_eq_true rfl) dL_law_628 ⟨Nat.le_of_ble_eq_true rfl, Nat.le_of_ble_eq_true rfl⟩) (fun r1 S1 H locs q1 J => ?_)
  refine lv_aload_n X.1 X.2.1 dL_law_631 rfl (lv_at hl 2 rfl) ?_
  refine w_arg X hX hbl hL J.2.2.2.2 hl (j := 1) (by omega) (by omega) (by omega) dL_law_632 dL_law_633 dL_law_634 dL_law_635 dL_law_636 ?_
  refine lw_M J (runV (As := [.int (iI (xv xs (4 * (k : Int) + 1)))]) (rest := [.int (iI r1)]) X (k_X10_asked l M U (xv xs (4 * (k : Int) + 1)) (xv_r xs _) (MI_J hJ)) (gdC tb_991 (gdC tb_992 (gdC tb_993 (gdC tb_48 (gdC tb_994 gdB))))) ⟨ok_X10_asked, ⟨Nat.le_of_ble_eq_true rfl, Nat.le_of_ble_eq_true rfl⟩, rfl, rfl⟩ (LJ.preM (C := RX10) (T := TX10) (N := 41) J atM_model rfl) rfl hl.1 rfl (Nat.le_of_ble_eq_true rfl) dL_law_637 ⟨Nat.le_of_ble_eq_true rfl, Nat.le_of_ble_eq_true rfl⟩) (fun r2 U1 H locs q2 J => ?_)
  obtain ⟨e9, hJ1⟩ := op_asked hJ (by omega) q1 q2
  refine lv_icmp_eq (tgt := 750) X.1 X.2.1 dL_law_640 (by decide) (fun _ => ?_) (fun z => absurd (by rw [e9]) z)
  exact nx _ _ _ _ hJ1 J
set_option maxRecDepth 100000 in
set_option maxHeartbeats 4000000 in
theorem law_brief {p : Program} {l : Launch} {e : Env} {s : State} {m : MethodId} {below : List Frame} {meth : Method} {c : Code} {b L : Nat} {xs : Nat → Int32} {G M : Ge} (X : CallFix p m c cL_law 4 s #[Value.ref b] TB "NameSeekerLaw") (hX : va_X b L xs s s.heap) (hbl : b < s.heap.size) (hL : L ≤ 2048) {k : Nat} (hk : k < 512) (hkL : 4 * (k : Int) + 4 ≤ L) {S U : St} (hJ : JJ S U.1 k) {H : Heap} {locs : List Loc} (J : LJ G M s H locs S U) {ls : Array Slot} (hl : lv_has ls 4 (LL_ G M b k)) (nx : ∀ (S1 U1 : St) (H : Heap) (locs : List Loc), JJ S1 U1.1 ((k : Int) + 1) → LJ G M s H locs S1 U1 → LW_ p l e s m below meth c b H locs (F0 m 750 ls [])) : LW_ p l e s m below meth c b H locs (F0 m 645 ls []) := by
  refine lv_aload_n X.1 X.2.1 dL_law_645 rfl (lv_at hl 1 rfl) ?_
  refine w_arg X hX hbl hL J.2.2.2.2 hl (j := 1) (by omega) (by omega) (by omega) dL_law_646 dL_law_647 dL_law_648 dL_law_649 dL_law_650 ?_
  refine lw_C J (runV (As := [.int (iI (xv xs (4 * (k : Int) + 1)))]) (rest := []) X (k_X9_brief l G S (xv xs (4 * (k : Int) + 1)) (xv_r xs _) k (CI_J hJ)) (gdC tb_650 (gdC tb_651 (gdC tb_652 (gdC tb_34 (gdC tb_653 gdB))))) ⟨ok_X9_brief, ⟨Nat.le_of_ble_eq_true rfl, Nat.le_of_ble_eq_true rfl⟩, rfl, rfl⟩ (LJ.preC (C := RX9) (T := TX9) (N := 14) J atC_ns rfl) rfl hl.1 rfl (Nat.le_of_ble_eq_true rfl) dL_law_651 ⟨Nat.le_of_ble_eq_true rfl, Nat.le_of_ble_eq_true rfl⟩) (fun r1 S1 H locs q1 J => ?_)
  refine lv_aload_n X.1 X.2.1 dL_law_654 rfl (lv_at hl 2 rfl) ?_
  refine w_arg X hX hbl hL J.2.2.2.2 hl (j := 1) (by omega) (by omega) (by omega) dL_law_655 dL_law_656 dL_law_657 dL_law_658 dL_law_659 ?_
  refine lw_M J (runV (As := [.int (iI (xv xs (4 * (k : Int) + 1)))]) (rest := [.int (iI r1)]) X (k_X10_brief l M U (xv xs (4 * (k : Int) + 1)) (xv_r xs _) (MI_J hJ)) (gdC tb_996 (gdC tb_997 (gdC tb_998 (gdC tb_48 (gdC tb_999 gdB))))) ⟨ok_X10_brief, ⟨Nat.le_of_ble_eq_true rfl, Nat.le_of_ble_eq_true rfl⟩, rfl, rfl⟩ (LJ.preM (C := RX10) (T := TX10) (N := 41) J atM_model rfl) rfl hl.1 rfl (Nat.le_of_ble_eq_true rfl) dL_law_660 ⟨Nat.le_of_ble_eq_true rfl, Nat.le_of_ble_eq_true rfl⟩) (fun r2 U1 H locs q2 J => ?_)
  obtain ⟨e9, hJ1⟩ := op_brief hJ (by omega) q1 q2
  refine lv_icmp_eq (tgt := 750) X.1 X.2.1 dL_law_663 (by decide) (fun _ => ?_) (fun z => absurd (by rw [e9]) z)
  exact nx _ _ _ _ hJ1 J
set_option maxRecDepth 100000 in
set_option maxHeartbeats 4000000 in
theorem law_pair {p : Program} {l : Launch} {e : Env} {s : State} {m : MethodId} {below : List Frame} {meth : Method} {c : Code} {b L : Nat} {xs : Nat → Int32} {G M : Ge} (X : CallFix p m c cL_law 4 s #[Value.ref b] TB "NameSeekerLaw") (hX : va_X b L xs s s.heap) (hbl : b < s.heap.size) (hL : L ≤ 2048) {k : Nat} (hk : k < 512) (hkL : 4 * (k : Int) + 4 ≤ L) {S U : St} (hJ : JJ S U.1 k) {H : Heap} {locs : List Loc} (J : LJ G M s H locs S U) {ls : Array Slot} (hl : lv_has ls 4 (LL_ G M b k)) (nx : ∀ (S1 U1 : St) (H : Heap) (locs : List Loc), JJ S1 U1.1 ((k : Int) + 1) → LJ G M s H locs S1 U1 → LW_ p l e s m below meth c b H locs (F0 m 750 ls [])) : LW_ p l e s m below meth c b H locs (F0 m 668 ls []) := by
  refine lv_aload_n X.1 X.2.1 dL_law_668 rfl (lv_at hl 1 rfl) ?_
  refine w_arg X hX hbl hL J.2.2.2.2 hl (j := 1) (by omega) (by omega) (by omega) dL_law_669 dL_law_670 dL_law_671 dL_law_672 dL_law_673 ?_
  refine w_arg X hX hbl hL J.2.2.2.2 hl (j := 2) (by omega) (by omega) (by omega) dL_law_674 dL_law_675 dL_law_676 dL_law_677 dL_law_678 ?_
  refine lw_C J (runV (As := [.int (iI (xv xs (4 * (k : Int) + 1))), .int (iI (xv xs (4 * (k : Int) + 2)))]) (rest := []) X (k_X9_pair l G S (xv xs (4 * (k : Int) + 1)) (xv xs (4 * (k : Int) + 2)) (xv_r xs _) (xv_r xs _) k (CI_J hJ)) (gdC tb_662 (gdC tb_663 (gdC tb_664 (gdC tb_34 (gdC tb_665 gdB))))) ⟨ok_X9_pair, ⟨Nat.le_of_ble_eq_true rfl, Nat.le_of_ble_eq_true rfl⟩, rfl, rfl⟩ (LJ.preC (C := RX9) (T := TX9) (N := 14) J atC_ns rfl) rfl hl.1 rfl (Nat.le_of_ble_eq_true rfl) dL_law_679 ⟨Nat.le_of_ble_eq_true rfl, Nat.le_of_ble_eq_true rfl⟩) (fun r1 S1 H locs q1 J => ?_)
  refine lv_aload_n X.1 X.2.1 dL_law_682 rfl (lv_at hl 2 rfl) ?_
  refine w_arg X hX hbl hL J.2.2.2.2 hl (j := 1) (by omega) (by omega) (by omega) dL_law_683 dL_law_684 dL_law_685 dL_law_686 dL_law_687 ?_
  refine w_arg X hX hbl hL J.2.2.2.2 hl (j := 2) (by omega) (by omega) (by omega) dL_law_688 dL_law_689 dL_law_690 dL_law_691 dL_law_692 ?_
  refine lw_M J (runV (As := [.int (iI (xv xs (4 * (k : Int) + 1))), .int (iI (xv xs (4 * (k : Int) + 2)))]) (rest := [.int (iI r1)]) X (k_X10_pair l M U (xv xs (4 * (k : Int) + 1)) (xv xs (4 * (k : Int) + 2)) (xv_r xs _) (xv_r xs _) (MI_J hJ)) (gdC tb_1004 (gdC tb_1005 (gdC tb_1006 (gdC tb_48 (gdC tb_1007 gdB))))) ⟨ok_X10_pair, ⟨Nat.le_of_ble_eq_true rfl, Nat.le_of_ble_eq_true rfl⟩, rfl, rfl⟩ (LJ.preM (C := RX10) (T := TX10) (N := 41) J atM_model rfl) rfl hl.1 rfl (Nat.le_of_ble_eq_true rfl) dL_law_693 ⟨Nat.le_of_ble_eq_true rfl, Nat.le_of_ble_eq_true rfl⟩) (fun r2 U1 H locs q2 J => ?_)
  obtain ⟨e9, hJ1⟩ := op_pair hJ (by omega) q1 q2
  refine lv_icmp_eq (tgt := 750) X.1 X.2.1 dL_law_696 (by decide) (fun _ => ?_) (fun z => absurd (by rw [e9]) z)
  exact nx _ _ _ _ hJ1 J
set_option maxRecDepth 100000 in
set_option maxHeartbeats 4000000 in
theorem law_keep {p : Program} {l : Launch} {e : Env} {s : State} {m : MethodId} {below : List Frame} {meth : Method} {c : Code} {b L : Nat} {xs : Nat → Int32} {G M : Ge} (X : CallFix p m c cL_law 4 s #[Value.ref b] TB "NameSeekerLaw") (hX : va_X b L xs s s.heap) (hbl : b < s.heap.size) (hL : L ≤ 2048) {k : Nat} (hk : k < 512) (hkL : 4 * (k : Int) + 4 ≤ L) {S U : St} (hJ : JJ S U.1 k) {H : Heap} {locs : List Loc} (J : LJ G M s H locs S U) {ls : Array Slot} (hl : lv_has ls 4 (LL_ G M b k)) (nx : ∀ (S1 U1 : St) (H : Heap) (locs : List Loc), JJ S1 U1.1 ((k : Int) + 1) → LJ G M s H locs S1 U1 → LW_ p l e s m below meth c b H locs (F0 m 750 ls [])) : LW_ p l e s m below meth c b H locs (F0 m 701 ls []) := by
  refine lv_aload_n X.1 X.2.1 dL_law_701 rfl (lv_at hl 1 rfl) ?_
  refine lw_C J (runV (As := []) (rest := []) X (k_X9_keep l G S   k (CI_J hJ)) (gdC tb_672 (gdC tb_673 (gdC tb_674 (gdC tb_34 (gdC tb_675 gdB))))) ⟨ok_X9_keep, ⟨Nat.le_of_ble_eq_true rfl, Nat.le_of_ble_eq_true rfl⟩, rfl, rfl⟩ (LJ.preC (C := RX9) (T := TX9) (N := 14) J atC_ns rfl) rfl hl.1 rfl (Nat.le_of_ble_eq_true rfl) dL_law_702 ⟨Nat.le_of_ble_eq_true rfl, Nat.le_of_ble_eq_true rfl⟩) (fun r1 S1 H locs q1 J => ?_)
  refine lv_aload_n X.1 X.2.1 dL_law_705 rfl (lv_at hl 2 rfl) ?_
  refine lw_M J (runV (As := []) (rest := [.int (iI r1)]) X (k_X10_keep l M U   (MI_J hJ)) (gdC tb_1008 (gdC tb_1009 (gdC tb_1010 (gdC tb_48 (gdC tb_1011 gdB))))) ⟨ok_X10_keep, ⟨Nat.le_of_ble_eq_true rfl, Nat.le_of_ble_eq_true rfl⟩, rfl, rfl⟩ (LJ.preM (C := RX10) (T := TX10) (N := 41) J atM_model rfl) rfl hl.1 rfl (Nat.le_of_ble_eq_true rfl) dL_law_706 ⟨Nat.le_of_ble_eq_true rfl, Nat.le_of_ble_eq_true rfl⟩) (fun r2 U1 H locs q2 J => ?_)
  obtain ⟨e9, hJ1⟩ := op_keep hJ (by omega) q1 q2
  refine lv_icmp_eq (tgt := 750) X.1 X.2.1 dL_law_709 (by decide) (fun _ => ?_) (fun z => absurd (by rw [e9]) z)
  exact nx _ _ _ _ hJ1 J
set_option maxRecDepth 100000 in
set_option maxHeartbeats 4000000 in
theorem law_back {p : Program} {l : Launch} {e : Env} {s : State} {m : MethodId} {below : List Frame} {meth : Method} {c : Code} {b L : Nat} {xs : Nat → Int32} {G M : Ge} (X : CallFix p m c cL_law 4 s #[Value.ref b] TB "NameSeekerLaw") (hX : va_X b L xs s s.heap) (hbl : b < s.heap.size) (hL : L ≤ 2048) {k : Nat} (hk : k < 512) (hkL : 4 * (k : Int) + 4 ≤ L) {S U : St} (hJ : JJ S U.1 k) {H : Heap} {locs : List Loc} (J : LJ G M s H locs S U) {ls : Array Slot} (hl : lv_has ls 4 (LL_ G M b k)) (nx : ∀ (S1 U1 : St) (H : Heap) (locs : List Loc), JJ S1 U1.1 ((k : Int) + 1) → LJ G M s H locs S1 U1 → LW_ p l e s m below meth c b H locs (F0 m 750 ls [])) : LW_ p l e s m below meth c b H locs (F0 m 714 ls []) := by
  refine lv_aload_n X.1 X.2.1 dL_law_714 rfl (lv_at hl 1 rfl) ?_
  refine lw_C J (runV (As := []) (rest := []) X (k_X9_back l G S   k (CI_J hJ)) (gdC tb_680 (gdC tb_681 (gdC tb_682 (gdC tb_34 (gdC tb_683 gdB))))) ⟨ok_X9_back, ⟨Nat.le_of_ble_eq_true rfl, Nat.le_of_ble_eq_true rfl⟩, rfl, rfl⟩ (LJ.preC (C := RX9) (T := TX9) (N := 14) J atC_ns rfl) rfl hl.1 rfl (Nat.le_of_ble_eq_true rfl) dL_law_715 ⟨Nat.le_of_ble_eq_true rfl, Nat.le_of_ble_eq_true rfl⟩) (fun r1 S1 H locs q1 J => ?_)
  refine lv_aload_n X.1 X.2.1 dL_law_718 rfl (lv_at hl 2 rfl) ?_
  refine lw_M J (runV (As := []) (rest := [.int (iI r1)]) X (k_X10_back l M U   (MI_J hJ)) (gdC tb_1012 (gdC tb_1013 (gdC tb_1014 (gdC tb_48 (gdC tb_1015 gdB))))) ⟨ok_X10_back, ⟨Nat.le_of_ble_eq_true rfl, Nat.le_of_ble_eq_true rfl⟩, rfl, rfl⟩ (LJ.preM (C := RX10) (T := TX10) (N := 41) J atM_model rfl) rfl hl.1 rfl (Nat.le_of_ble_eq_true rfl) dL_law_719 ⟨Nat.le_of_ble_eq_true rfl, Nat.le_of_ble_eq_true rfl⟩) (fun r2 U1 H locs q2 J => ?_)
  obtain ⟨e9, hJ1⟩ := op_back hJ (by omega) q1 q2
  refine lv_icmp_eq (tgt := 750) X.1 X.2.1 dL_law_722 (by decide) (fun _ => ?_) (fun z => absurd (by rw [e9]) z)
  exact nx _ _ _ _ hJ1 J
set_option maxRecDepth 100000 in
set_option maxHeartbeats 4000000 in
theorem law_count {p : Program} {l : Launch} {e : Env} {s : State} {m : MethodId} {below : List Frame} {meth : Method} {c : Code} {b L : Nat} {xs : Nat → Int32} {G M : Ge} (X : CallFix p m c cL_law 4 s #[Value.ref b] TB "NameSeekerLaw") (hX : va_X b L xs s s.heap) (hbl : b < s.heap.size) (hL : L ≤ 2048) {k : Nat} (hk : k < 512) (hkL : 4 * (k : Int) + 4 ≤ L) {S U : St} (hJ : JJ S U.1 k) {H : Heap} {locs : List Loc} (J : LJ G M s H locs S U) {ls : Array Slot} (hl : lv_has ls 4 (LL_ G M b k)) (nx : ∀ (S1 U1 : St) (H : Heap) (locs : List Loc), JJ S1 U1.1 ((k : Int) + 1) → LJ G M s H locs S1 U1 → LW_ p l e s m below meth c b H locs (F0 m 750 ls [])) : LW_ p l e s m below meth c b H locs (F0 m 727 ls []) := by
  refine lv_aload_n X.1 X.2.1 dL_law_727 rfl (lv_at hl 1 rfl) ?_
  refine w_arg X hX hbl hL J.2.2.2.2 hl (j := 1) (by omega) (by omega) (by omega) dL_law_728 dL_law_729 dL_law_730 dL_law_731 dL_law_732 ?_
  refine lw_C J (runV (As := [.int (iI (xv xs (4 * (k : Int) + 1)))]) (rest := []) X (k_X9_count l G S (xv xs (4 * (k : Int) + 1)) (xv_r xs _) k (CI_J hJ)) (gdC tb_684 (gdC tb_685 (gdC tb_686 (gdC tb_34 (gdC tb_687 gdB))))) ⟨ok_X9_count, ⟨Nat.le_of_ble_eq_true rfl, Nat.le_of_ble_eq_true rfl⟩, rfl, rfl⟩ (LJ.preC (C := RX9) (T := TX9) (N := 14) J atC_ns rfl) rfl hl.1 rfl (Nat.le_of_ble_eq_true rfl) dL_law_733 ⟨Nat.le_of_ble_eq_true rfl, Nat.le_of_ble_eq_true rfl⟩) (fun r1 S1 H locs q1 J => ?_)
  refine lv_aload_n X.1 X.2.1 dL_law_736 rfl (lv_at hl 2 rfl) ?_
  refine w_arg X hX hbl hL J.2.2.2.2 hl (j := 1) (by omega) (by omega) (by omega) dL_law_737 dL_law_738 dL_law_739 dL_law_740 dL_law_741 ?_
  refine lw_M J (runV (As := [.int (iI (xv xs (4 * (k : Int) + 1)))]) (rest := [.int (iI r1)]) X (k_X10_count l M U (xv xs (4 * (k : Int) + 1)) (xv_r xs _) (MI_J hJ)) (gdC tb_1016 (gdC tb_1017 (gdC tb_1018 (gdC tb_48 (gdC tb_1019 gdB))))) ⟨ok_X10_count, ⟨Nat.le_of_ble_eq_true rfl, Nat.le_of_ble_eq_true rfl⟩, rfl, rfl⟩ (LJ.preM (C := RX10) (T := TX10) (N := 41) J atM_model rfl) rfl hl.1 rfl (Nat.le_of_ble_eq_true rfl) dL_law_742 ⟨Nat.le_of_ble_eq_true rfl, Nat.le_of_ble_eq_true rfl⟩) (fun r2 U1 H locs q2 J => ?_)
  obtain ⟨e9, hJ1⟩ := op_count hJ (by omega) q1 q2
  refine lv_icmp_eq (tgt := 750) X.1 X.2.1 dL_law_745 (by decide) (fun _ => ?_) (fun z => absurd (by rw [e9]) z)
  exact nx _ _ _ _ hJ1 J
set_option maxRecDepth 100000 in
set_option maxHeartbeats 4000000 in
theorem law_loop {p : Program} {l : Launch} {e : Env} {s : State} {m : MethodId} {below : List Frame} {meth : Method} {c : Code} {b L : Nat} {xs : Nat → Int32} {G M : Ge} (X : CallFix p m c cL_law 4 s #[Value.ref b] TB "NameSeekerLaw") (hr : meth.sig.returnType = ret) (hlk : meth.locks = false) (hX : va_X b L xs s s.heap) (hbl : b < s.heap.size) (hL : L ≤ 2048) :
    ∀ (fu k : Nat) (S U : St), 600 - k < fu → k ≤ 512 → JJ S U.1 k → ∀ (H : Heap) (locs : List Loc), LJ G M s H locs S U → ∀ ls : Array Slot, lv_has ls 4 (LL_ G M b k) → LW_ p l e s m below meth c b H locs (F0 m 18 ls []) := by
  intro fu
  induction fu with
  | zero => intro k S U hm; exact absurd hm (by omega)
  | succ fu ih =>
    intro k S U hm hk hJ H locs J ls hl
    refine lv_iload_n X.1 X.2.1 dL_law_18 rfl (lv_at hl 3 rfl) ?_
    refine lv_aload_n X.1 X.2.1 dL_law_19 rfl (lv_at hl 0 rfl) ?_
    refine va_slen X.1 X.2.1 hX hbl (Nat.not_le.mpr hbl) J.2.2.2.2 dL_law_20 ?_
    refine ri_const X (v := 4) dL_law_21 ?_
    rw [show Int32.ofNat L = iI (L : Int) from (iI_nat L).symm]
    refine ri_sub X (v := (L : Int) - 4) rfl dL_law_22 ?_
    refine rj_gt (tgt := 756) X (by omega) (by omega) dL_law_23 (by decide) (fun c1 => ?_) (fun c1 => ?_)
    · refine lv_iconst (v := 1) X.1 X.2.1 dL_law_756 (by decide) ?_
      refine va_forget (fun q hq => J.2.2.2.2.2.2 q hq) ?_
      refine W.widen (k := 600000) (n := 7302250) (Nat.le_of_ble_eq_true rfl) (Nat.le_of_ble_eq_true rfl) ?_
      exact lw_ret X.1 X.2.1 hr hlk dL_law_757
    · have hk5 : k < 512 := by omega
      have hkL : 4 * (k : Int) + 4 ≤ L := by omega
      have nx : ∀ (S1 U1 : St) (H : Heap) (locs : List Loc), JJ S1 U1.1 ((k : Int) + 1) → LJ G M s H locs S1 U1 → LW_ p l e s m below meth c b H locs (F0 m 750 ls []) := fun S1 U1 H locs hJ1 J1 => by
        refine ri_iinc X (k := 3) (v := 4 * ((k + 1 : Nat) : Int)) (lv' := [(3, .int (iI (4 * ((k + 1 : Nat) : Int)))), (0, .ref b), (1, .ref (G.2.2 0)), (2, .ref (M.2.2 0))]) (by omega) dL_law_750 hl rfl (by decide) rfl (fun ls hl => ?_)
        refine lv_goto (tgt := 18) X.1 X.2.1 dL_law_753 (by decide) ?_
        exact ih (k + 1) S1 U1 (by omega) (by omega) hJ1 _ _ J1 ls (lv_sub hl [1, 2, 3, 0] rfl)
      refine lv_aload_n X.1 X.2.1 dL_law_26 rfl (lv_at hl 0 rfl) ?_
      refine lv_iload_n X.1 X.2.1 dL_law_27 rfl (lv_at hl 3 rfl) ?_
      refine va_sld X.1 X.2.1 hX hbl (Nat.not_le.mpr hbl) J.2.2.2.2 (iI_in (by omega) (by omega) (by omega)) dL_law_28 ?_
      refine lv_bipush (v := 31) X.1 X.2.1 dL_law_29 (by decide) ?_
      refine lv_iand X.1 X.2.1 dL_law_31 ?_
      obtain ⟨j, hj, ej⟩ := pk_andE (xs (iI (4 * (k : Int))).toNatClampNeg) (m := 31) 5 (by decide)
      rw [ej]
      have hj32 : j < 32 := hj
      have tj : (nI j).toInt = (j : Int) := nI_toInt (by omega)
      rcases Decidable.em (j = 0) with g | g0
      · refine lv_tableIn (off := 120) (tgt := 152) X.1 X.2.1 dL_law_32 (by rw [tj]; omega) (by rw [tj]; omega) (by rw [tj, g]; rfl) (by decide) ?_
        exact law_write X hX hbl hL hk5 hkL hJ J hl nx
      rcases Decidable.em (j = 1) with g | g1
      · refine lv_tableIn (off := 143) (tgt := 175) X.1 X.2.1 dL_law_32 (by rw [tj]; omega) (by rw [tj]; omega) (by rw [tj, g]; rfl) (by decide) ?_
        exact law_wipe X hX hbl hL hk5 hkL hJ J hl nx
      rcases Decidable.em (j = 2) with g | g2
      · refine lv_tableIn (off := 156) (tgt := 188) X.1 X.2.1 dL_law_32 (by rw [tj]; omega) (by rw [tj]; omega) (by rw [tj, g]; rfl) (by decide) ?_
        exact law_fault X hX hbl hL hk5 hkL hJ J hl nx
      rcases Decidable.em (j = 3) with g | g3
      · refine lv_tableIn (off := 169) (tgt := 201) X.1 X.2.1 dL_law_32 (by rw [tj]; omega) (by rw [tj]; omega) (by rw [tj, g]; rfl) (by decide) ?_
        exact law_lay X hX hbl hL hk5 hkL hJ J hl nx
      rcases Decidable.em (j = 4) with g | g4
      · refine lv_tableIn (off := 182) (tgt := 214) X.1 X.2.1 dL_law_32 (by rw [tj]; omega) (by rw [tj]; omega) (by rw [tj, g]; rfl) (by decide) ?_
        exact law_name X hX hbl hL hk5 hkL hJ J hl nx
      rcases Decidable.em (j = 5) with g | g5
      · refine lv_tableIn (off := 215) (tgt := 247) X.1 X.2.1 dL_law_32 (by rw [tj]; omega) (by rw [tj]; omega) (by rw [tj, g]; rfl) (by decide) ?_
        exact law_sign X hX hbl hL hk5 hkL hJ J hl nx
      rcases Decidable.em (j = 6) with g | g6
      · refine lv_tableIn (off := 248) (tgt := 280) X.1 X.2.1 dL_law_32 (by rw [tj]; omega) (by rw [tj]; omega) (by rw [tj, g]; rfl) (by decide) ?_
        exact law_type X hX hbl hL hk5 hkL hJ J hl nx
      rcases Decidable.em (j = 7) with g | g7
      · refine lv_tableIn (off := 271) (tgt := 303) X.1 X.2.1 dL_law_32 (by rw [tj]; omega) (by rw [tj]; omega) (by rw [tj, g]; rfl) (by decide) ?_
        exact law_untype X hX hbl hL hk5 hkL hJ J hl nx
      rcases Decidable.em (j = 8) with g | g8
      · refine lv_tableIn (off := 284) (tgt := 316) X.1 X.2.1 dL_law_32 (by rw [tj]; omega) (by rw [tj]; omega) (by rw [tj, g]; rfl) (by decide) ?_
        exact law_roll X hX hbl hL hk5 hkL hJ J hl nx
      rcases Decidable.em (j = 9) with g | g9
      · refine lv_tableIn (off := 297) (tgt := 329) X.1 X.2.1 dL_law_32 (by rw [tj]; omega) (by rw [tj]; omega) (by rw [tj, g]; rfl) (by decide) ?_
        exact law_word X hX hbl hL hk5 hkL hJ J hl nx
      rcases Decidable.em (j = 10) with g | g10
      · refine lv_tableIn (off := 320) (tgt := 352) X.1 X.2.1 dL_law_32 (by rw [tj]; omega) (by rw [tj]; omega) (by rw [tj, g]; rfl) (by decide) ?_
        exact law_pick X hX hbl hL hk5 hkL hJ J hl nx
      rcases Decidable.em (j = 11) with g | g11
      · refine lv_tableIn (off := 343) (tgt := 375) X.1 X.2.1 dL_law_32 (by rw [tj]; omega) (by rw [tj]; omega) (by rw [tj, g]; rfl) (by decide) ?_
        exact law_forget X hX hbl hL hk5 hkL hJ J hl nx
      rcases Decidable.em (j = 12) with g | g12
      · refine lv_tableIn (off := 366) (tgt := 398) X.1 X.2.1 dL_law_32 (by rw [tj]; omega) (by rw [tj]; omega) (by rw [tj, g]; rfl) (by decide) ?_
        exact law_drop X hX hbl hL hk5 hkL hJ J hl nx
      rcases Decidable.em (j = 13) with g | g13
      · refine lv_tableIn (off := 389) (tgt := 421) X.1 X.2.1 dL_law_32 (by rw [tj]; omega) (by rw [tj]; omega) (by rw [tj, g]; rfl) (by decide) ?_
        exact law_rename X hX hbl hL hk5 hkL hJ J hl nx
      rcases Decidable.em (j = 14) with g | g14
      · refine lv_tableIn (off := 422) (tgt := 454) X.1 X.2.1 dL_law_32 (by rw [tj]; omega) (by rw [tj]; omega) (by rw [tj, g]; rfl) (by decide) ?_
        exact law_worth X hX hbl hL hk5 hkL hJ J hl nx
      rcases Decidable.em (j = 15) with g | g15
      · refine lv_tableIn (off := 465) (tgt := 497) X.1 X.2.1 dL_law_32 (by rw [tj]; omega) (by rw [tj]; omega) (by rw [tj, g]; rfl) (by decide) ?_
        exact law_score X hX hbl hL hk5 hkL hJ J hl nx
      rcases Decidable.em (j = 16) with g | g16
      · refine lv_tableIn (off := 488) (tgt := 520) X.1 X.2.1 dL_law_32 (by rw [tj]; omega) (by rw [tj]; omega) (by rw [tj, g]; rfl) (by decide) ?_
        exact law_list X hX hbl hL hk5 hkL hJ J hl nx
      rcases Decidable.em (j = 17) with g | g17
      · refine lv_tableIn (off := 511) (tgt := 543) X.1 X.2.1 dL_law_32 (by rw [tj]; omega) (by rw [tj]; omega) (by rw [tj, g]; rfl) (by decide) ?_
        exact law_best X hX hbl hL hk5 hkL hJ J hl nx
      rcases Decidable.em (j = 18) with g | g18
      · refine lv_tableIn (off := 544) (tgt := 576) X.1 X.2.1 dL_law_32 (by rw [tj]; omega) (by rw [tj]; omega) (by rw [tj, g]; rfl) (by decide) ?_
        exact law_ways X hX hbl hL hk5 hkL hJ J hl nx
      rcases Decidable.em (j = 19) with g | g19
      · refine lv_tableIn (off := 567) (tgt := 599) X.1 X.2.1 dL_law_32 (by rw [tj]; omega) (by rw [tj]; omega) (by rw [tj, g]; rfl) (by decide) ?_
        exact law_passes X hX hbl hL hk5 hkL hJ J hl nx
      rcases Decidable.em (j = 20) with g | g20
      · refine lv_tableIn (off := 590) (tgt := 622) X.1 X.2.1 dL_law_32 (by rw [tj]; omega) (by rw [tj]; omega) (by rw [tj, g]; rfl) (by decide) ?_
        exact law_asked X hX hbl hL hk5 hkL hJ J hl nx
      rcases Decidable.em (j = 21) with g | g21
      · refine lv_tableIn (off := 613) (tgt := 645) X.1 X.2.1 dL_law_32 (by rw [tj]; omega) (by rw [tj]; omega) (by rw [tj, g]; rfl) (by decide) ?_
        exact law_brief X hX hbl hL hk5 hkL hJ J hl nx
      rcases Decidable.em (j = 22) with g | g22
      · refine lv_tableIn (off := 636) (tgt := 668) X.1 X.2.1 dL_law_32 (by rw [tj]; omega) (by rw [tj]; omega) (by rw [tj, g]; rfl) (by decide) ?_
        exact law_pair X hX hbl hL hk5 hkL hJ J hl nx
      rcases Decidable.em (j = 23) with g | g23
      · refine lv_tableIn (off := 669) (tgt := 701) X.1 X.2.1 dL_law_32 (by rw [tj]; omega) (by rw [tj]; omega) (by rw [tj, g]; rfl) (by decide) ?_
        exact law_keep X hX hbl hL hk5 hkL hJ J hl nx
      rcases Decidable.em (j = 24) with g | g24
      · refine lv_tableIn (off := 682) (tgt := 714) X.1 X.2.1 dL_law_32 (by rw [tj]; omega) (by rw [tj]; omega) (by rw [tj, g]; rfl) (by decide) ?_
        exact law_back X hX hbl hL hk5 hkL hJ J hl nx
      rcases Decidable.em (j = 25) with g | g25
      · refine lv_tableIn (off := 695) (tgt := 727) X.1 X.2.1 dL_law_32 (by rw [tj]; omega) (by rw [tj]; omega) (by rw [tj, g]; rfl) (by decide) ?_
        exact law_count X hX hbl hL hk5 hkL hJ J hl nx
      refine lv_tableOut (tgt := 750) X.1 X.2.1 dL_law_32 (by rw [tj]; omega) (by decide) ?_
      exact nx _ _ _ _ (JJ_n hJ (by omega)) J
