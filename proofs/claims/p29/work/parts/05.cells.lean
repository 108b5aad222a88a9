abbrev Ge : Type := va_G × (Nat → ClassId) × (Nat → Nat)
abbrev tysK (G : Ge) : List (ClassId × FieldType) := [(G.2.1 0, .char), (G.2.1 1, .int), (G.2.1 2, .long), (G.2.1 3, .object "NameSeeker$Name"), (G.2.1 4, .object "NameSeeker$Word"), (G.2.1 5, .array .int)]
def wC (G : Ge) (S : St) : va_W :=
  [(G.2.2 0, .inr (9, [.ref (G.2.2 1), .ref (G.2.2 3), .ref (G.2.2 5), .ref (G.2.2 (6 + 2 * 0)), .ref (G.2.2 (6 + 2 * 1)), .ref (G.2.2 14), .ref (G.2.2 15), .ref (G.2.2 31), .ref (G.2.2 36), .ref (G.2.2 38), .int (iI (S.1 56 0)), .int (iI (S.1 57 0)), .int (iI (S.1 58 0)), .int (iI (S.1 59 0))])),
   (G.2.2 1, .inr (7, [.ref (G.2.2 2), .int (iI (S.1 50 0))])),
   (G.2.2 2, .inl (G.2.1 0, 200, .inl (fun i : Nat => iI (S.1 0 i)))),
   (G.2.2 3, .inr (3, [.ref (G.2.2 4), .int (iI (S.1 51 0)), .int (iI (S.1 52 0))])),
   (G.2.2 4, .inl (G.2.1 3, 8, .inr (.inr (.inr (.inr (fun i : Nat => some (G.2.2 (41 + 2 * S.2 i)))))))),
   (G.2.2 5, .inr (6, [.int (iI (S.1 53 0)), .int (iI (S.1 54 0)), .int (iI (S.1 55 0))])),
   (G.2.2 (6 + 2 * 0), .inr (8, [.ref (G.2.2 (7 + 2 * 0)), .int (iI (S.1 8 ((0 : Nat) : Int)))])),
   (G.2.2 (7 + 2 * 0), .inl (G.2.1 0, 6, .inl (fun i : Nat => iI (S.1 (16 + 0) i)))),
   (G.2.2 (6 + 2 * 1), .inr (8, [.ref (G.2.2 (7 + 2 * 1)), .int (iI (S.1 8 ((1 : Nat) : Int)))])),
   (G.2.2 (7 + 2 * 1), .inl (G.2.1 0, 6, .inl (fun i : Nat => iI (S.1 (16 + 1) i)))),
   (G.2.2 (6 + 2 * 2), .inr (8, [.ref (G.2.2 (7 + 2 * 2)), .int (iI (S.1 8 ((2 : Nat) : Int)))])),
   (G.2.2 (7 + 2 * 2), .inl (G.2.1 0, 6, .inl (fun i : Nat => iI (S.1 (16 + 2) i)))),
   (G.2.2 (6 + 2 * 3), .inr (8, [.ref (G.2.2 (7 + 2 * 3)), .int (iI (S.1 8 ((3 : Nat) : Int)))])),
   (G.2.2 (7 + 2 * 3), .inl (G.2.1 0, 6, .inl (fun i : Nat => iI (S.1 (16 + 3) i)))),
   (G.2.2 14, .inl (G.2.1 4, 2, .inr (.inr (.inr (.inr (fun i : Nat => some (G.2.2 (6 + 2 * (2 + i))))))))),
   (G.2.2 15, .inr (2, [.ref (G.2.2 16), .ref (G.2.2 23), .ref (G.2.2 30), .int (iI (S.1 60 0))])),
   (G.2.2 16, .inl (G.2.1 5, 6, .inr (.inr (.inr (.inr (fun i : Nat => some (G.2.2 (17 + i)))))))),
   (G.2.2 (17 + 0), .inl (G.2.1 1, 12, .inl (fun i : Nat => iI (S.1 (30 + 0) i)))),
   (G.2.2 (17 + 1), .inl (G.2.1 1, 12, .inl (fun i : Nat => iI (S.1 (30 + 1) i)))),
   (G.2.2 (17 + 2), .inl (G.2.1 1, 12, .inl (fun i : Nat => iI (S.1 (30 + 2) i)))),
   (G.2.2 (17 + 3), .inl (G.2.1 1, 12, .inl (fun i : Nat => iI (S.1 (30 + 3) i)))),
   (G.2.2 (17 + 4), .inl (G.2.1 1, 12, .inl (fun i : Nat => iI (S.1 (30 + 4) i)))),
   (G.2.2 (17 + 5), .inl (G.2.1 1, 12, .inl (fun i : Nat => iI (S.1 (30 + 5) i)))),
   (G.2.2 23, .inl (G.2.1 5, 6, .inr (.inr (.inr (.inr (fun i : Nat => some (G.2.2 (24 + i)))))))),
   (G.2.2 (24 + 0), .inl (G.2.1 1, 12, .inl (fun i : Nat => iI (S.1 (40 + 0) i)))),
   (G.2.2 (24 + 1), .inl (G.2.1 1, 12, .inl (fun i : Nat => iI (S.1 (40 + 1) i)))),
   (G.2.2 (24 + 2), .inl (G.2.1 1, 12, .inl (fun i : Nat => iI (S.1 (40 + 2) i)))),
   (G.2.2 (24 + 3), .inl (G.2.1 1, 12, .inl (fun i : Nat => iI (S.1 (40 + 3) i)))),
   (G.2.2 (24 + 4), .inl (G.2.1 1, 12, .inl (fun i : Nat => iI (S.1 (40 + 4) i)))),
   (G.2.2 (24 + 5), .inl (G.2.1 1, 12, .inl (fun i : Nat => iI (S.1 (40 + 5) i)))),
   (G.2.2 30, .inl (G.2.1 1, 7, .inl (fun i : Nat => iI (S.1 9 i)))),
   (G.2.2 31, .inr (1, [.ref (G.2.2 32), .ref (G.2.2 33), .ref (G.2.2 34), .ref (G.2.2 35), .int (iI (S.1 61 0)), .int (iI (S.1 62 0))])),
   (G.2.2 32, .inl (G.2.1 1, 32, .inl (fun i : Nat => iI (S.1 10 i)))),
   (G.2.2 33, .inl (G.2.1 2, 32, .inr (.inl (fun i : Nat => lI (S.1 11 i))))),
   (G.2.2 34, .inl (G.2.1 1, 32, .inl (fun i : Nat => iI (S.1 12 i)))),
   (G.2.2 35, .inl (G.2.1 1, 32, .inl (fun i : Nat => iI (S.1 13 i)))),
   (G.2.2 36, .inr (0, [.ref (G.2.2 37), .int (iI (S.1 63 0))])),
   (G.2.2 37, .inl (G.2.1 2, 6, .inr (.inl (fun i : Nat => lI (S.1 14 i))))),
   (G.2.2 38, .inr (5, [.ref (G.2.2 39), .ref (G.2.2 40), .int (iI (S.1 64 0))])),
   (G.2.2 39, .inl (G.2.1 1, 8, .inl (fun i : Nat => iI (S.1 15 i)))),
   (G.2.2 40, .inl (G.2.1 1, 8, .inl (fun i : Nat => iI (S.1 29 i)))),
   (G.2.2 (41 + 2 * 0), .inr (4, [.ref (G.2.2 (42 + 2 * 0)), .int (iI (S.1 2 ((0 : Nat) : Int))), .int (iI (S.1 3 ((0 : Nat) : Int))), .int (iI (S.1 4 ((0 : Nat) : Int))), .int (iI (S.1 5 ((0 : Nat) : Int))), .int (iI (S.1 6 ((0 : Nat) : Int))), .int (iI (S.1 7 ((0 : Nat) : Int)))])),
   (G.2.2 (42 + 2 * 0), .inl (G.2.1 0, 12, .inl (fun i : Nat => iI (S.1 (20 + 0) i)))),
   (G.2.2 (41 + 2 * 1), .inr (4, [.ref (G.2.2 (42 + 2 * 1)), .int (iI (S.1 2 ((1 : Nat) : Int))), .int (iI (S.1 3 ((1 : Nat) : Int))), .int (iI (S.1 4 ((1 : Nat) : Int))), .int (iI (S.1 5 ((1 : Nat) : Int))), .int (iI (S.1 6 ((1 : Nat) : Int))), .int (iI (S.1 7 ((1 : Nat) : Int)))])),
   (G.2.2 (42 + 2 * 1), .inl (G.2.1 0, 12, .inl (fun i : Nat => iI (S.1 (20 + 1) i)))),
   (G.2.2 (41 + 2 * 2), .inr (4, [.ref (G.2.2 (42 + 2 * 2)), .int (iI (S.1 2 ((2 : Nat) : Int))), .int (iI (S.1 3 ((2 : Nat) : Int))), .int (iI (S.1 4 ((2 : Nat) : Int))), .int (iI (S.1 5 ((2 : Nat) : Int))), .int (iI (S.1 6 ((2 : Nat) : Int))), .int (iI (S.1 7 ((2 : Nat) : Int)))])),
   (G.2.2 (42 + 2 * 2), .inl (G.2.1 0, 12, .inl (fun i : Nat => iI (S.1 (20 + 2) i)))),
   (G.2.2 (41 + 2 * 3), .inr (4, [.ref (G.2.2 (42 + 2 * 3)), .int (iI (S.1 2 ((3 : Nat) : Int))), .int (iI (S.1 3 ((3 : Nat) : Int))), .int (iI (S.1 4 ((3 : Nat) : Int))), .int (iI (S.1 5 ((3 : Nat) : Int))), .int (iI (S.1 6 ((3 : Nat) : Int))), .int (iI (S.1 7 ((3 : Nat) : Int)))])),
   (G.2.2 (42 + 2 * 3), .inl (G.2.1 0, 12, .inl (fun i : Nat => iI (S.1 (20 + 3) i)))),
   (G.2.2 (41 + 2 * 4), .inr (4, [.ref (G.2.2 (42 + 2 * 4)), .int (iI (S.1 2 ((4 : Nat) : Int))), .int (iI (S.1 3 ((4 : Nat) : Int))), .int (iI (S.1 4 ((4 : Nat) : Int))), .int (iI (S.1 5 ((4 : Nat) : Int))), .int (iI (S.1 6 ((4 : Nat) : Int))), .int (iI (S.1 7 ((4 : Nat) : Int)))])),
   (G.2.2 (42 + 2 * 4), .inl (G.2.1 0, 12, .inl (fun i : Nat => iI (S.1 (20 + 4) i)))),
   (G.2.2 (41 + 2 * 5), .inr (4, [.ref (G.2.2 (42 + 2 * 5)), .int (iI (S.1 2 ((5 : Nat) : Int))), .int (iI (S.1 3 ((5 : Nat) : Int))), .int (iI (S.1 4 ((5 : Nat) : Int))), .int (iI (S.1 5 ((5 : Nat) : Int))), .int (iI (S.1 6 ((5 : Nat) : Int))), .int (iI (S.1 7 ((5 : Nat) : Int)))])),
   (G.2.2 (42 + 2 * 5), .inl (G.2.1 0, 12, .inl (fun i : Nat => iI (S.1 (20 + 5) i)))),
   (G.2.2 (41 + 2 * 6), .inr (4, [.ref (G.2.2 (42 + 2 * 6)), .int (iI (S.1 2 ((6 : Nat) : Int))), .int (iI (S.1 3 ((6 : Nat) : Int))), .int (iI (S.1 4 ((6 : Nat) : Int))), .int (iI (S.1 5 ((6 : Nat) : Int))), .int (iI (S.1 6 ((6 : Nat) : Int))), .int (iI (S.1 7 ((6 : Nat) : Int)))])),
   (G.2.2 (42 + 2 * 6), .inl (G.2.1 0, 12, .inl (fun i : Nat => iI (S.1 (20 + 6) i)))),
   (G.2.2 (41 + 2 * 7), .inr (4, [.ref (G.2.2 (42 + 2 * 7)), .int (iI (S.1 2 ((7 : Nat) : Int))), .int (iI (S.1 3 ((7 : Nat) : Int))), .int (iI (S.1 4 ((7 : Nat) : Int))), .int (iI (S.1 5 ((7 : Nat) : Int))), .int (iI (S.1 6 ((7 : Nat) : Int))), .int (iI (S.1 7 ((7 : Nat) : Int)))])),
   (G.2.2 (42 + 2 * 7), .inl (G.2.1 0, 12, .inl (fun i : Nat => iI (S.1 (20 + 7) i))))]
def frC (G : Ge) : Nat → Prop := fun q => ∃ i : Nat, i < 57 ∧ q = G.2.2 i
abbrev KC (G : Ge) : Sd := (G.1, tysK G, wC G, frC G)
section SDC
variable {p : Program} {l : Launch} {e : Env} {R : Room} {s : State} {m : MethodId} {args : Array Value} {below : List Frame} {meth : Method} {c : Code} {H : Heap} {locs : List Loc} {cells slots : Nat} {Q : State → Prop}
variable {cc : ByteArray} {pc nL : Nat} {ls : Array Slot} {rest : List Value} {own : String} {S : St} {H0 : Heap} {G : Ge}
theorem atC_ns : (wC G S)[0]? = some (G.2.2 0, .inr (9, [.ref (G.2.2 1), .ref (G.2.2 3), .ref (G.2.2 5), .ref (G.2.2 (6 + 2 * 0)), .ref (G.2.2 (6 + 2 * 1)), .ref (G.2.2 14), .ref (G.2.2 15), .ref (G.2.2 31), .ref (G.2.2 36), .ref (G.2.2 38), .int (iI (S.1 56 0)), .int (iI (S.1 57 0)), .int (iI (S.1 58 0)), .int (iI (S.1 59 0))])) := rfl
theorem gC_ns_text (X : CallFix p m c cc nL s args TB own) (I : In (KC G) s H0 H locs S) {idx : Nat} (hk : Cond.fieldLink own idx "NameSeeker" "text" "LNameSeeker$Text;" ∈ TB) (hdg : decode cc pc = .ok (.getfield idx, 3)) (kk : W p l e R s m args below meth c H locs cells slots Q (F0 m (pc + 3) ls (.ref (G.2.2 1) :: rest))) : W p l e R s m args below meth c H locs cells slots Q (F0 m pc ls (.ref (G.2.2 0) :: rest)) := gI X I (ci := 9) (C := RX9) (T := TX9) (N := 14) _ (atC_ns) rfl inlX9 0 (by decide) hk rfl hdg kk
theorem gC_ns_lot (X : CallFix p m c cc nL s args TB own) (I : In (KC G) s H0 H locs S) {idx : Nat} (hk : Cond.fieldLink own idx "NameSeeker" "lot" "LNameSeeker$Lot;" ∈ TB) (hdg : decode cc pc = .ok (.getfield idx, 3)) (kk : W p l e R s m args below meth c H locs cells slots Q (F0 m (pc + 3) ls (.ref (G.2.2 3) :: rest))) : W p l e R s m args below meth c H locs cells slots Q (F0 m pc ls (.ref (G.2.2 0) :: rest)) := gI X I (ci := 9) (C := RX9) (T := TX9) (N := 14) _ (atC_ns) rfl inlX9 1 (by decide) hk rfl hdg kk
theorem gC_ns_scales (X : CallFix p m c cc nL s args TB own) (I : In (KC G) s H0 H locs S) {idx : Nat} (hk : Cond.fieldLink own idx "NameSeeker" "scales" "LNameSeeker$Scales;" ∈ TB) (hdg : decode cc pc = .ok (.getfield idx, 3)) (kk : W p l e R s m args below meth c H locs cells slots Q (F0 m (pc + 3) ls (.ref (G.2.2 5) :: rest))) : W p l e R s m args below meth c H locs cells slots Q (F0 m pc ls (.ref (G.2.2 0) :: rest)) := gI X I (ci := 9) (C := RX9) (T := TX9) (N := 14) _ (atC_ns) rfl inlX9 2 (by decide) hk rfl hdg kk
theorem gC_ns_typed (X : CallFix p m c cc nL s args TB own) (I : In (KC G) s H0 H locs S) {idx : Nat} (hk : Cond.fieldLink own idx "NameSeeker" "typed" "LNameSeeker$Word;" ∈ TB) (hdg : decode cc pc = .ok (.getfield idx, 3)) (kk : W p l e R s m args below meth c H locs cells slots Q (F0 m (pc + 3) ls (.ref (G.2.2 (6 + 2 * 0)) :: rest))) : W p l e R s m args below meth c H locs cells slots Q (F0 m pc ls (.ref (G.2.2 0) :: rest)) := gI X I (ci := 9) (C := RX9) (T := TX9) (N := 14) _ (atC_ns) rfl inlX9 3 (by decide) hk rfl hdg kk
theorem gC_ns_tried (X : CallFix p m c cc nL s args TB own) (I : In (KC G) s H0 H locs S) {idx : Nat} (hk : Cond.fieldLink own idx "NameSeeker" "tried" "LNameSeeker$Word;" ∈ TB) (hdg : decode cc pc = .ok (.getfield idx, 3)) (kk : W p l e R s m args below meth c H locs cells slots Q (F0 m (pc + 3) ls (.ref (G.2.2 (6 + 2 * 1)) :: rest))) : W p l e R s m args below meth c H locs cells slots Q (F0 m pc ls (.ref (G.2.2 0) :: rest)) := gI X I (ci := 9) (C := RX9) (T := TX9) (N := 14) _ (atC_ns) rfl inlX9 4 (by decide) hk rfl hdg kk
theorem gC_ns_kept (X : CallFix p m c cc nL s args TB own) (I : In (KC G) s H0 H locs S) {idx : Nat} (hk : Cond.fieldLink own idx "NameSeeker" "kept" "[LNameSeeker$Word;" ∈ TB) (hdg : decode cc pc = .ok (.getfield idx, 3)) (kk : W p l e R s m args below meth c H locs cells slots Q (F0 m (pc + 3) ls (.ref (G.2.2 14) :: rest))) : W p l e R s m args below meth c H locs cells slots Q (F0 m pc ls (.ref (G.2.2 0) :: rest)) := gI X I (ci := 9) (C := RX9) (T := TX9) (N := 14) _ (atC_ns) rfl inlX9 5 (by decide) hk rfl hdg kk
theorem gC_ns_laying (X : CallFix p m c cc nL s args TB own) (I : In (KC G) s H0 H locs S) {idx : Nat} (hk : Cond.fieldLink own idx "NameSeeker" "laying" "LNameSeeker$Laying;" ∈ TB) (hdg : decode cc pc = .ok (.getfield idx, 3)) (kk : W p l e R s m args below meth c H locs cells slots Q (F0 m (pc + 3) ls (.ref (G.2.2 15) :: rest))) : W p l e R s m args below meth c H locs cells slots Q (F0 m pc ls (.ref (G.2.2 0) :: rest)) := gI X I (ci := 9) (C := RX9) (T := TX9) (N := 14) _ (atC_ns) rfl inlX9 6 (by decide) hk rfl hdg kk
theorem gC_ns_known (X : CallFix p m c cc nL s args TB own) (I : In (KC G) s H0 H locs S) {idx : Nat} (hk : Cond.fieldLink own idx "NameSeeker" "known" "LNameSeeker$Known;" ∈ TB) (hdg : decode cc pc = .ok (.getfield idx, 3)) (kk : W p l e R s m args below meth c H locs cells slots Q (F0 m (pc + 3) ls (.ref (G.2.2 31) :: rest))) : W p l e R s m args below meth c H locs cells slots Q (F0 m pc ls (.ref (G.2.2 0) :: rest)) := gI X I (ci := 9) (C := RX9) (T := TX9) (N := 14) _ (atC_ns) rfl inlX9 7 (by decide) hk rfl hdg kk
theorem gC_ns_askedCodes (X : CallFix p m c cc nL s args TB own) (I : In (KC G) s H0 H locs S) {idx : Nat} (hk : Cond.fieldLink own idx "NameSeeker" "askedCodes" "LNameSeeker$Asked;" ∈ TB) (hdg : decode cc pc = .ok (.getfield idx, 3)) (kk : W p l e R s m args below meth c H locs cells slots Q (F0 m (pc + 3) ls (.ref (G.2.2 36) :: rest))) : W p l e R s m args below meth c H locs cells slots Q (F0 m pc ls (.ref (G.2.2 0) :: rest)) := gI X I (ci := 9) (C := RX9) (T := TX9) (N := 14) _ (atC_ns) rfl inlX9 8 (by decide) hk rfl hdg kk
theorem gC_ns_ranking (X : CallFix p m c cc nL s args TB own) (I : In (KC G) s H0 H locs S) {idx : Nat} (hk : Cond.fieldLink own idx "NameSeeker" "ranking" "LNameSeeker$Ranking;" ∈ TB) (hdg : decode cc pc = .ok (.getfield idx, 3)) (kk : W p l e R s m args below meth c H locs cells slots Q (F0 m (pc + 3) ls (.ref (G.2.2 38) :: rest))) : W p l e R s m args below meth c H locs cells slots Q (F0 m pc ls (.ref (G.2.2 0) :: rest)) := gI X I (ci := 9) (C := RX9) (T := TX9) (N := 14) _ (atC_ns) rfl inlX9 9 (by decide) hk rfl hdg kk
theorem gC_ns_keptSize (X : CallFix p m c cc nL s args TB own) (I : In (KC G) s H0 H locs S) {idx : Nat} {v : Int} (hv : S.1 56 0 = v) (hk : Cond.fieldLink own idx "NameSeeker" "keptSize" "I" ∈ TB) (hdg : decode cc pc = .ok (.getfield idx, 3)) (kk : W p l e R s m args below meth c H locs cells slots Q (F0 m (pc + 3) ls (.int (iI v) :: rest))) : W p l e R s m args below meth c H locs cells slots Q (F0 m pc ls (.ref (G.2.2 0) :: rest)) := by
  subst hv
  exact gI X I (ci := 9) (C := RX9) (T := TX9) (N := 14) _ (atC_ns) rfl inlX9 10 (by decide) hk rfl hdg kk
theorem sC_ns_keptSize {v : Int} : (wC G S).set 0 (G.2.2 0, .inr (9, [.ref (G.2.2 1), .ref (G.2.2 3), .ref (G.2.2 5), .ref (G.2.2 (6 + 2 * 0)), .ref (G.2.2 (6 + 2 * 1)), .ref (G.2.2 14), .ref (G.2.2 15), .ref (G.2.2 31), .ref (G.2.2 36), .ref (G.2.2 38), .int (iI v), .int (iI (S.1 57 0)), .int (iI (S.1 58 0)), .int (iI (S.1 59 0))])) = wC G (us S.1 56 v, S.2) := rfl
theorem pC_ns_keptSize (X : CallFix p m c cc nL s args TB own) (I : In (KC G) s H0 H locs S) {idx : Nat} {v : Int} (hk : Cond.fieldLink own idx "NameSeeker" "keptSize" "I" ∈ TB) (hdg : decode cc pc = .ok (.putfield idx, 3)) (kk : ∀ (H1 : Heap) (locs1 : List Loc), In (KC G) s H0 H1 locs1 (us S.1 56 v, S.2) → W p l e R s m args below meth c H1 locs1 cells slots Q (F0 m (pc + 3) ls rest)) : W p l e R s m args below meth c H locs cells slots Q (F0 m pc ls (.int (iI v) :: .ref (G.2.2 0) :: rest)) :=
  pI X I (S1 := (us S.1 56 v, S.2)) (ci := 9) (C := RX9) (T := TX9) (N := 14) _ (atC_ns) rfl inlX9 tyX9 tyX9_ok nmX9 10 (by decide) hk rfl (tyX9_ok 10 (by decide)) (Nat.le_of_ble_eq_true rfl) sC_ns_keptSize hdg kk
theorem gC_ns_tick (X : CallFix p m c cc nL s args TB own) (I : In (KC G) s H0 H locs S) {idx : Nat} {v : Int} (hv : S.1 57 0 = v) (hk : Cond.fieldLink own idx "NameSeeker" "tick" "I" ∈ TB) (hdg : decode cc pc = .ok (.getfield idx, 3)) (kk : W p l e R s m args below meth c H locs cells slots Q (F0 m (pc + 3) ls (.int (iI v) :: rest))) : W p l e R s m args below meth c H locs cells slots Q (F0 m pc ls (.ref (G.2.2 0) :: rest)) := by
  subst hv
  exact gI X I (ci := 9) (C := RX9) (T := TX9) (N := 14) _ (atC_ns) rfl inlX9 11 (by decide) hk rfl hdg kk
theorem sC_ns_tick {v : Int} : (wC G S).set 0 (G.2.2 0, .inr (9, [.ref (G.2.2 1), .ref (G.2.2 3), .ref (G.2.2 5), .ref (G.2.2 (6 + 2 * 0)), .ref (G.2.2 (6 + 2 * 1)), .ref (G.2.2 14), .ref (G.2.2 15), .ref (G.2.2 31), .ref (G.2.2 36), .ref (G.2.2 38), .int (iI (S.1 56 0)), .int (iI v), .int (iI (S.1 58 0)), .int (iI (S.1 59 0))])) = wC G (us S.1 57 v, S.2) := rfl
theorem pC_ns_tick (X : CallFix p m c cc nL s args TB own) (I : In (KC G) s H0 H locs S) {idx : Nat} {v : Int} (hk : Cond.fieldLink own idx "NameSeeker" "tick" "I" ∈ TB) (hdg : decode cc pc = .ok (.putfield idx, 3)) (kk : ∀ (H1 : Heap) (locs1 : List Loc), In (KC G) s H0 H1 locs1 (us S.1 57 v, S.2) → W p l e R s m args below meth c H1 locs1 cells slots Q (F0 m (pc + 3) ls rest)) : W p l e R s m args below meth c H locs cells slots Q (F0 m pc ls (.int (iI v) :: .ref (G.2.2 0) :: rest)) :=
  pI X I (S1 := (us S.1 57 v, S.2)) (ci := 9) (C := RX9) (T := TX9) (N := 14) _ (atC_ns) rfl inlX9 tyX9 tyX9_ok nmX9 11 (by decide) hk rfl (tyX9_ok 11 (by decide)) (Nat.le_of_ble_eq_true rfl) sC_ns_tick hdg kk
theorem gC_ns_age (X : CallFix p m c cc nL s args TB own) (I : In (KC G) s H0 H locs S) {idx : Nat} {v : Int} (hv : S.1 58 0 = v) (hk : Cond.fieldLink own idx "NameSeeker" "age" "I" ∈ TB) (hdg : decode cc pc = .ok (.getfield idx, 3)) (kk : W p l e R s m args below meth c H locs cells slots Q (F0 m (pc + 3) ls (.int (iI v) :: rest))) : W p l e R s m args below meth c H locs cells slots Q (F0 m pc ls (.ref (G.2.2 0) :: rest)) := by
  subst hv
  exact gI X I (ci := 9) (C := RX9) (T := TX9) (N := 14) _ (atC_ns) rfl inlX9 12 (by decide) hk rfl hdg kk
theorem sC_ns_age {v : Int} : (wC G S).set 0 (G.2.2 0, .inr (9, [.ref (G.2.2 1), .ref (G.2.2 3), .ref (G.2.2 5), .ref (G.2.2 (6 + 2 * 0)), .ref (G.2.2 (6 + 2 * 1)), .ref (G.2.2 14), .ref (G.2.2 15), .ref (G.2.2 31), .ref (G.2.2 36), .ref (G.2.2 38), .int (iI (S.1 56 0)), .int (iI (S.1 57 0)), .int (iI v), .int (iI (S.1 59 0))])) = wC G (us S.1 58 v, S.2) := rfl
theorem pC_ns_age (X : CallFix p m c cc nL s args TB own) (I : In (KC G) s H0 H locs S) {idx : Nat} {v : Int} (hk : Cond.fieldLink own idx "NameSeeker" "age" "I" ∈ TB) (hdg : decode cc pc = .ok (.putfield idx, 3)) (kk : ∀ (H1 : Heap) (locs1 : List Loc), In (KC G) s H0 H1 locs1 (us S.1 58 v, S.2) → W p l e R s m args below meth c H1 locs1 cells slots Q (F0 m (pc + 3) ls rest)) : W p l e R s m args below meth c H locs cells slots Q (F0 m pc ls (.int (iI v) :: .ref (G.2.2 0) :: rest)) :=
  pI X I (S1 := (us S.1 58 v, S.2)) (ci := 9) (C := RX9) (T := TX9) (N := 14) _ (atC_ns) rfl inlX9 tyX9 tyX9_ok nmX9 12 (by decide) hk rfl (tyX9_ok 12 (by decide)) (Nat.le_of_ble_eq_true rfl) sC_ns_age hdg kk
theorem gC_ns_seed (X : CallFix p m c cc nL s args TB own) (I : In (KC G) s H0 H locs S) {idx : Nat} {v : Int} (hv : S.1 59 0 = v) (hk : Cond.fieldLink own idx "NameSeeker" "seed" "I" ∈ TB) (hdg : decode cc pc = .ok (.getfield idx, 3)) (kk : W p l e R s m args below meth c H locs cells slots Q (F0 m (pc + 3) ls (.int (iI v) :: rest))) : W p l e R s m args below meth c H locs cells slots Q (F0 m pc ls (.ref (G.2.2 0) :: rest)) := by
  subst hv
  exact gI X I (ci := 9) (C := RX9) (T := TX9) (N := 14) _ (atC_ns) rfl inlX9 13 (by decide) hk rfl hdg kk
theorem sC_ns_seed {v : Int} : (wC G S).set 0 (G.2.2 0, .inr (9, [.ref (G.2.2 1), .ref (G.2.2 3), .ref (G.2.2 5), .ref (G.2.2 (6 + 2 * 0)), .ref (G.2.2 (6 + 2 * 1)), .ref (G.2.2 14), .ref (G.2.2 15), .ref (G.2.2 31), .ref (G.2.2 36), .ref (G.2.2 38), .int (iI (S.1 56 0)), .int (iI (S.1 57 0)), .int (iI (S.1 58 0)), .int (iI v)])) = wC G (us S.1 59 v, S.2) := rfl
theorem pC_ns_seed (X : CallFix p m c cc nL s args TB own) (I : In (KC G) s H0 H locs S) {idx : Nat} {v : Int} (hk : Cond.fieldLink own idx "NameSeeker" "seed" "I" ∈ TB) (hdg : decode cc pc = .ok (.putfield idx, 3)) (kk : ∀ (H1 : Heap) (locs1 : List Loc), In (KC G) s H0 H1 locs1 (us S.1 59 v, S.2) → W p l e R s m args below meth c H1 locs1 cells slots Q (F0 m (pc + 3) ls rest)) : W p l e R s m args below meth c H locs cells slots Q (F0 m pc ls (.int (iI v) :: .ref (G.2.2 0) :: rest)) :=
  pI X I (S1 := (us S.1 59 v, S.2)) (ci := 9) (C := RX9) (T := TX9) (N := 14) _ (atC_ns) rfl inlX9 tyX9 tyX9_ok nmX9 13 (by decide) hk rfl (tyX9_ok 13 (by decide)) (Nat.le_of_ble_eq_true rfl) sC_ns_seed hdg kk
theorem atC_text : (wC G S)[1]? = some (G.2.2 1, .inr (7, [.ref (G.2.2 2), .int (iI (S.1 50 0))])) := rfl
theorem gC_text_letters (X : CallFix p m c cc nL s args TB own) (I : In (KC G) s H0 H locs S) {idx : Nat} (hk : Cond.fieldLink own idx "NameSeeker$Text" "letters" "[C" ∈ TB) (hdg : decode cc pc = .ok (.getfield idx, 3)) (kk : W p l e R s m args below meth c H locs cells slots Q (F0 m (pc + 3) ls (.ref (G.2.2 2) :: rest))) : W p l e R s m args below meth c H locs cells slots Q (F0 m pc ls (.ref (G.2.2 1) :: rest)) := gI X I (ci := 7) (C := RX7) (T := TX7) (N := 2) _ (atC_text) rfl inlX7 0 (by decide) hk rfl hdg kk
theorem gC_text_size (X : CallFix p m c cc nL s args TB own) (I : In (KC G) s H0 H locs S) {idx : Nat} {v : Int} (hv : S.1 50 0 = v) (hk : Cond.fieldLink own idx "NameSeeker$Text" "size" "I" ∈ TB) (hdg : decode cc pc = .ok (.getfield idx, 3)) (kk : W p l e R s m args below meth c H locs cells slots Q (F0 m (pc + 3) ls (.int (iI v) :: rest))) : W p l e R s m args below meth c H locs cells slots Q (F0 m pc ls (.ref (G.2.2 1) :: rest)) := by
  subst hv
  exact gI X I (ci := 7) (C := RX7) (T := TX7) (N := 2) _ (atC_text) rfl inlX7 1 (by decide) hk rfl hdg kk
theorem sC_text_size {v : Int} : (wC G S).set 1 (G.2.2 1, .inr (7, [.ref (G.2.2 2), .int (iI v)])) = wC G (us S.1 50 v, S.2) := rfl
theorem pC_text_size (X : CallFix p m c cc nL s args TB own) (I : In (KC G) s H0 H locs S) {idx : Nat} {v : Int} (hk : Cond.fieldLink own idx "NameSeeker$Text" "size" "I" ∈ TB) (hdg : decode cc pc = .ok (.putfield idx, 3)) (kk : ∀ (H1 : Heap) (locs1 : List Loc), In (KC G) s H0 H1 locs1 (us S.1 50 v, S.2) → W p l e R s m args below meth c H1 locs1 cells slots Q (F0 m (pc + 3) ls rest)) : W p l e R s m args below meth c H locs cells slots Q (F0 m pc ls (.int (iI v) :: .ref (G.2.2 1) :: rest)) :=
  pI X I (S1 := (us S.1 50 v, S.2)) (ci := 7) (C := RX7) (T := TX7) (N := 2) _ (atC_text) rfl inlX7 tyX7 tyX7_ok nmX7 1 (by decide) hk rfl (tyX7_ok 1 (by decide)) (Nat.le_of_ble_eq_true rfl) sC_text_size hdg kk
theorem atC_lot : (wC G S)[3]? = some (G.2.2 3, .inr (3, [.ref (G.2.2 4), .int (iI (S.1 51 0)), .int (iI (S.1 52 0))])) := rfl
theorem gC_lot_names (X : CallFix p m c cc nL s args TB own) (I : In (KC G) s H0 H locs S) {idx : Nat} (hk : Cond.fieldLink own idx "NameSeeker$Lot" "names" "[LNameSeeker$Name;" ∈ TB) (hdg : decode cc pc = .ok (.getfield idx, 3)) (kk : W p l e R s m args below meth c H locs cells slots Q (F0 m (pc + 3) ls (.ref (G.2.2 4) :: rest))) : W p l e R s m args below meth c H locs cells slots Q (F0 m pc ls (.ref (G.2.2 3) :: rest)) := gI X I (ci := 3) (C := RX3) (T := TX3) (N := 3) _ (atC_lot) rfl inlX3 0 (by decide) hk rfl hdg kk
theorem gC_lot_size (X : CallFix p m c cc nL s args TB own) (I : In (KC G) s H0 H locs S) {idx : Nat} {v : Int} (hv : S.1 51 0 = v) (hk : Cond.fieldLink own idx "NameSeeker$Lot" "size" "I" ∈ TB) (hdg : decode cc pc = .ok (.getfield idx, 3)) (kk : W p l e R s m args below meth c H locs cells slots Q (F0 m (pc + 3) ls (.int (iI v) :: rest))) : W p l e R s m args below meth c H locs cells slots Q (F0 m pc ls (.ref (G.2.2 3) :: rest)) := by
  subst hv
  exact gI X I (ci := 3) (C := RX3) (T := TX3) (N := 3) _ (atC_lot) rfl inlX3 1 (by decide) hk rfl hdg kk
theorem sC_lot_size {v : Int} : (wC G S).set 3 (G.2.2 3, .inr (3, [.ref (G.2.2 4), .int (iI v), .int (iI (S.1 52 0))])) = wC G (us S.1 51 v, S.2) := rfl
theorem pC_lot_size (X : CallFix p m c cc nL s args TB own) (I : In (KC G) s H0 H locs S) {idx : Nat} {v : Int} (hk : Cond.fieldLink own idx "NameSeeker$Lot" "size" "I" ∈ TB) (hdg : decode cc pc = .ok (.putfield idx, 3)) (kk : ∀ (H1 : Heap) (locs1 : List Loc), In (KC G) s H0 H1 locs1 (us S.1 51 v, S.2) → W p l e R s m args below meth c H1 locs1 cells slots Q (F0 m (pc + 3) ls rest)) : W p l e R s m args below meth c H locs cells slots Q (F0 m pc ls (.int (iI v) :: .ref (G.2.2 3) :: rest)) :=
  pI X I (S1 := (us S.1 51 v, S.2)) (ci := 3) (C := RX3) (T := TX3) (N := 3) _ (atC_lot) rfl inlX3 tyX3 tyX3_ok nmX3 1 (by decide) hk rfl (tyX3_ok 1 (by decide)) (Nat.le_of_ble_eq_true rfl) sC_lot_size hdg kk
theorem gC_lot_laid (X : CallFix p m c cc nL s args TB own) (I : In (KC G) s H0 H locs S) {idx : Nat} {v : Int} (hv : S.1 52 0 = v) (hk : Cond.fieldLink own idx "NameSeeker$Lot" "laid" "I" ∈ TB) (hdg : decode cc pc = .ok (.getfield idx, 3)) (kk : W p l e R s m args below meth c H locs cells slots Q (F0 m (pc + 3) ls (.int (iI v) :: rest))) : W p l e R s m args below meth c H locs cells slots Q (F0 m pc ls (.ref (G.2.2 3) :: rest)) := by
  subst hv
  exact gI X I (ci := 3) (C := RX3) (T := TX3) (N := 3) _ (atC_lot) rfl inlX3 2 (by decide) hk rfl hdg kk
theorem sC_lot_laid {v : Int} : (wC G S).set 3 (G.2.2 3, .inr (3, [.ref (G.2.2 4), .int (iI (S.1 51 0)), .int (iI v)])) = wC G (us S.1 52 v, S.2) := rfl
theorem pC_lot_laid (X : CallFix p m c cc nL s args TB own) (I : In (KC G) s H0 H locs S) {idx : Nat} {v : Int} (hk : Cond.fieldLink own idx "NameSeeker$Lot" "laid" "I" ∈ TB) (hdg : decode cc pc = .ok (.putfield idx, 3)) (kk : ∀ (H1 : Heap) (locs1 : List Loc), In (KC G) s H0 H1 locs1 (us S.1 52 v, S.2) → W p l e R s m args below meth c H1 locs1 cells slots Q (F0 m (pc + 3) ls rest)) : W p l e R s m args below meth c H locs cells slots Q (F0 m pc ls (.int (iI v) :: .ref (G.2.2 3) :: rest)) :=
  pI X I (S1 := (us S.1 52 v, S.2)) (ci := 3) (C := RX3) (T := TX3) (N := 3) _ (atC_lot) rfl inlX3 tyX3 tyX3_ok nmX3 2 (by decide) hk rfl (tyX3_ok 2 (by decide)) (Nat.le_of_ble_eq_true rfl) sC_lot_laid hdg kk
theorem atC_scales : (wC G S)[5]? = some (G.2.2 5, .inr (6, [.int (iI (S.1 53 0)), .int (iI (S.1 54 0)), .int (iI (S.1 55 0))])) := rfl
theorem gC_scales_beginning (X : CallFix p m c cc nL s args TB own) (I : In (KC G) s H0 H locs S) {idx : Nat} {v : Int} (hv : S.1 53 0 = v) (hk : Cond.fieldLink own idx "NameSeeker$Scales" "beginning" "I" ∈ TB) (hdg : decode cc pc = .ok (.getfield idx, 3)) (kk : W p l e R s m args below meth c H locs cells slots Q (F0 m (pc + 3) ls (.int (iI v) :: rest))) : W p l e R s m args below meth c H locs cells slots Q (F0 m pc ls (.ref (G.2.2 5) :: rest)) := by
  subst hv
  exact gI X I (ci := 6) (C := RX6) (T := TX6) (N := 3) _ (atC_scales) rfl inlX6 0 (by decide) hk rfl hdg kk
theorem sC_scales_beginning {v : Int} : (wC G S).set 5 (G.2.2 5, .inr (6, [.int (iI v), .int (iI (S.1 54 0)), .int (iI (S.1 55 0))])) = wC G (us S.1 53 v, S.2) := rfl
theorem pC_scales_beginning (X : CallFix p m c cc nL s args TB own) (I : In (KC G) s H0 H locs S) {idx : Nat} {v : Int} (hk : Cond.fieldLink own idx "NameSeeker$Scales" "beginning" "I" ∈ TB) (hdg : decode cc pc = .ok (.putfield idx, 3)) (kk : ∀ (H1 : Heap) (locs1 : List Loc), In (KC G) s H0 H1 locs1 (us S.1 53 v, S.2) → W p l e R s m args below meth c H1 locs1 cells slots Q (F0 m (pc + 3) ls rest)) : W p l e R s m args below meth c H locs cells slots Q (F0 m pc ls (.int (iI v) :: .ref (G.2.2 5) :: rest)) :=
  pI X I (S1 := (us S.1 53 v, S.2)) (ci := 6) (C := RX6) (T := TX6) (N := 3) _ (atC_scales) rfl inlX6 tyX6 tyX6_ok nmX6 0 (by decide) hk rfl (tyX6_ok 0 (by decide)) (Nat.le_of_ble_eq_true rfl) sC_scales_beginning hdg kk
theorem gC_scales_row (X : CallFix p m c cc nL s args TB own) (I : In (KC G) s H0 H locs S) {idx : Nat} {v : Int} (hv : S.1 54 0 = v) (hk : Cond.fieldLink own idx "NameSeeker$Scales" "row" "I" ∈ TB) (hdg : decode cc pc = .ok (.getfield idx, 3)) (kk : W p l e R s m args below meth c H locs cells slots Q (F0 m (pc + 3) ls (.int (iI v) :: rest))) : W p l e R s m args below meth c H locs cells slots Q (F0 m pc ls (.ref (G.2.2 5) :: rest)) := by
  subst hv
  exact gI X I (ci := 6) (C := RX6) (T := TX6) (N := 3) _ (atC_scales) rfl inlX6 1 (by decide) hk rfl hdg kk
theorem sC_scales_row {v : Int} : (wC G S).set 5 (G.2.2 5, .inr (6, [.int (iI (S.1 53 0)), .int (iI v), .int (iI (S.1 55 0))])) = wC G (us S.1 54 v, S.2) := rfl
theorem pC_scales_row (X : CallFix p m c cc nL s args TB own) (I : In (KC G) s H0 H locs S) {idx : Nat} {v : Int} (hk : Cond.fieldLink own idx "NameSeeker$Scales" "row" "I" ∈ TB) (hdg : decode cc pc = .ok (.putfield idx, 3)) (kk : ∀ (H1 : Heap) (locs1 : List Loc), In (KC G) s H0 H1 locs1 (us S.1 54 v, S.2) → W p l e R s m args below meth c H1 locs1 cells slots Q (F0 m (pc + 3) ls rest)) : W p l e R s m args below meth c H locs cells slots Q (F0 m pc ls (.int (iI v) :: .ref (G.2.2 5) :: rest)) :=
  pI X I (S1 := (us S.1 54 v, S.2)) (ci := 6) (C := RX6) (T := TX6) (N := 3) _ (atC_scales) rfl inlX6 tyX6 tyX6_ok nmX6 1 (by decide) hk rfl (tyX6_ok 1 (by decide)) (Nat.le_of_ble_eq_true rfl) sC_scales_row hdg kk
theorem gC_scales_gap (X : CallFix p m c cc nL s args TB own) (I : In (KC G) s H0 H locs S) {idx : Nat} {v : Int} (hv : S.1 55 0 = v) (hk : Cond.fieldLink own idx "NameSeeker$Scales" "gap" "I" ∈ TB) (hdg : decode cc pc = .ok (.getfield idx, 3)) (kk : W p l e R s m args below meth c H locs cells slots Q (F0 m (pc + 3) ls (.int (iI v) :: rest))) : W p l e R s m args below meth c H locs cells slots Q (F0 m pc ls (.ref (G.2.2 5) :: rest)) := by
  subst hv
  exact gI X I (ci := 6) (C := RX6) (T := TX6) (N := 3) _ (atC_scales) rfl inlX6 2 (by decide) hk rfl hdg kk
theorem sC_scales_gap {v : Int} : (wC G S).set 5 (G.2.2 5, .inr (6, [.int (iI (S.1 53 0)), .int (iI (S.1 54 0)), .int (iI v)])) = wC G (us S.1 55 v, S.2) := rfl
theorem pC_scales_gap (X : CallFix p m c cc nL s args TB own) (I : In (KC G) s H0 H locs S) {idx : Nat} {v : Int} (hk : Cond.fieldLink own idx "NameSeeker$Scales" "gap" "I" ∈ TB) (hdg : decode cc pc = .ok (.putfield idx, 3)) (kk : ∀ (H1 : Heap) (locs1 : List Loc), In (KC G) s H0 H1 locs1 (us S.1 55 v, S.2) → W p l e R s m args below meth c H1 locs1 cells slots Q (F0 m (pc + 3) ls rest)) : W p l e R s m args below meth c H locs cells slots Q (F0 m pc ls (.int (iI v) :: .ref (G.2.2 5) :: rest)) :=
  pI X I (S1 := (us S.1 55 v, S.2)) (ci := 6) (C := RX6) (T := TX6) (N := 3) _ (atC_scales) rfl inlX6 tyX6 tyX6_ok nmX6 2 (by decide) hk rfl (tyX6_ok 2 (by decide)) (Nat.le_of_ble_eq_true rfl) sC_scales_gap hdg kk
theorem atC_word {w : Nat} (hw : w < 4) : (wC G S)[(6 + 2 * w)]? = some (G.2.2 (6 + 2 * w), .inr (8, [.ref (G.2.2 (7 + 2 * w)), .int (iI (S.1 8 (w : Int)))])) := by
  match w, hw with
  | 0, _ => rfl
  | 1, _ => rfl
  | 2, _ => rfl
  | 3, _ => rfl
theorem gC_word_letters (X : CallFix p m c cc nL s args TB own) (I : In (KC G) s H0 H locs S) {w : Nat} (hw : w < 4) {idx : Nat} (hk : Cond.fieldLink own idx "NameSeeker$Word" "letters" "[C" ∈ TB) (hdg : decode cc pc = .ok (.getfield idx, 3)) (kk : W p l e R s m args below meth c H locs cells slots Q (F0 m (pc + 3) ls (.ref (G.2.2 (7 + 2 * w)) :: rest))) : W p l e R s m args below meth c H locs cells slots Q (F0 m pc ls (.ref (G.2.2 (6 + 2 * w)) :: rest)) := gI X I (ci := 8) (C := RX8) (T := TX8) (N := 2) _ (atC_word hw) rfl inlX8 0 (by decide) hk rfl hdg kk
theorem gC_word_size (X : CallFix p m c cc nL s args TB own) (I : In (KC G) s H0 H locs S) {w : Nat} (hw : w < 4) {idx : Nat} {v : Int} (hv : S.1 8 (w : Int) = v) (hk : Cond.fieldLink own idx "NameSeeker$Word" "size" "I" ∈ TB) (hdg : decode cc pc = .ok (.getfield idx, 3)) (kk : W p l e R s m args below meth c H locs cells slots Q (F0 m (pc + 3) ls (.int (iI v) :: rest))) : W p l e R s m args below meth c H locs cells slots Q (F0 m pc ls (.ref (G.2.2 (6 + 2 * w)) :: rest)) := by
  subst hv
  exact gI X I (ci := 8) (C := RX8) (T := TX8) (N := 2) _ (atC_word hw) rfl inlX8 1 (by decide) hk rfl hdg kk
theorem sC_word_size {v : Int} {w : Nat} (hw : w < 4) : (wC G S).set (6 + 2 * w) (G.2.2 (6 + 2 * w), .inr (8, [.ref (G.2.2 (7 + 2 * w)), .int (iI v)])) = wC G (ua S.1 8 (w : Int) v, S.2) := by
  match w, hw with
  | 0, _ => rfl
  | 1, _ => rfl
  | 2, _ => rfl
  | 3, _ => rfl
theorem pC_word_size (X : CallFix p m c cc nL s args TB own) (I : In (KC G) s H0 H locs S) {w : Nat} (hw : w < 4) {idx : Nat} {v : Int} (hk : Cond.fieldLink own idx "NameSeeker$Word" "size" "I" ∈ TB) (hdg : decode cc pc = .ok (.putfield idx, 3)) (kk : ∀ (H1 : Heap) (locs1 : List Loc), In (KC G) s H0 H1 locs1 (ua S.1 8 (w : Int) v, S.2) → W p l e R s m args below meth c H1 locs1 cells slots Q (F0 m (pc + 3) ls rest)) : W p l e R s m args below meth c H locs cells slots Q (F0 m pc ls (.int (iI v) :: .ref (G.2.2 (6 + 2 * w)) :: rest)) :=
  pI X I (S1 := (ua S.1 8 (w : Int) v, S.2)) (ci := 8) (C := RX8) (T := TX8) (N := 2) _ (atC_word hw) rfl inlX8 tyX8 tyX8_ok nmX8 1 (by decide) hk rfl (tyX8_ok 1 (by decide)) (Nat.le_of_ble_eq_true rfl) (sC_word_size hw) hdg kk
theorem atC_laying : (wC G S)[15]? = some (G.2.2 15, .inr (2, [.ref (G.2.2 16), .ref (G.2.2 23), .ref (G.2.2 30), .int (iI (S.1 60 0))])) := rfl
theorem gC_laying_tails (X : CallFix p m c cc nL s args TB own) (I : In (KC G) s H0 H locs S) {idx : Nat} (hk : Cond.fieldLink own idx "NameSeeker$Laying" "tails" "[[I" ∈ TB) (hdg : decode cc pc = .ok (.getfield idx, 3)) (kk : W p l e R s m args below meth c H locs cells slots Q (F0 m (pc + 3) ls (.ref (G.2.2 16) :: rest))) : W p l e R s m args below meth c H locs cells slots Q (F0 m pc ls (.ref (G.2.2 15) :: rest)) := gI X I (ci := 2) (C := RX2) (T := TX2) (N := 4) _ (atC_laying) rfl inlX2 0 (by decide) hk rfl hdg kk
theorem gC_laying_nexts (X : CallFix p m c cc nL s args TB own) (I : In (KC G) s H0 H locs S) {idx : Nat} (hk : Cond.fieldLink own idx "NameSeeker$Laying" "nexts" "[[I" ∈ TB) (hdg : decode cc pc = .ok (.getfield idx, 3)) (kk : W p l e R s m args below meth c H locs cells slots Q (F0 m (pc + 3) ls (.ref (G.2.2 23) :: rest))) : W p l e R s m args below meth c H locs cells slots Q (F0 m pc ls (.ref (G.2.2 15) :: rest)) := gI X I (ci := 2) (C := RX2) (T := TX2) (N := 4) _ (atC_laying) rfl inlX2 1 (by decide) hk rfl hdg kk
theorem gC_laying_counts (X : CallFix p m c cc nL s args TB own) (I : In (KC G) s H0 H locs S) {idx : Nat} (hk : Cond.fieldLink own idx "NameSeeker$Laying" "counts" "[I" ∈ TB) (hdg : decode cc pc = .ok (.getfield idx, 3)) (kk : W p l e R s m args below meth c H locs cells slots Q (F0 m (pc + 3) ls (.ref (G.2.2 30) :: rest))) : W p l e R s m args below meth c H locs cells slots Q (F0 m pc ls (.ref (G.2.2 15) :: rest)) := gI X I (ci := 2) (C := RX2) (T := TX2) (N := 4) _ (atC_laying) rfl inlX2 2 (by decide) hk rfl hdg kk
theorem gC_laying_bestFirst (X : CallFix p m c cc nL s args TB own) (I : In (KC G) s H0 H locs S) {idx : Nat} {v : Int} (hv : S.1 60 0 = v) (hk : Cond.fieldLink own idx "NameSeeker$Laying" "bestFirst" "I" ∈ TB) (hdg : decode cc pc = .ok (.getfield idx, 3)) (kk : W p l e R s m args below meth c H locs cells slots Q (F0 m (pc + 3) ls (.int (iI v) :: rest))) : W p l e R s m args below meth c H locs cells slots Q (F0 m pc ls (.ref (G.2.2 15) :: rest)) := by
  subst hv
  exact gI X I (ci := 2) (C := RX2) (T := TX2) (N := 4) _ (atC_laying) rfl inlX2 3 (by decide) hk rfl hdg kk
theorem sC_laying_bestFirst {v : Int} : (wC G S).set 15 (G.2.2 15, .inr (2, [.ref (G.2.2 16), .ref (G.2.2 23), .ref (G.2.2 30), .int (iI v)])) = wC G (us S.1 60 v, S.2) := rfl
theorem pC_laying_bestFirst (X : CallFix p m c cc nL s args TB own) (I : In (KC G) s H0 H locs S) {idx : Nat} {v : Int} (hk : Cond.fieldLink own idx "NameSeeker$Laying" "bestFirst" "I" ∈ TB) (hdg : decode cc pc = .ok (.putfield idx, 3)) (kk : ∀ (H1 : Heap) (locs1 : List Loc), In (KC G) s H0 H1 locs1 (us S.1 60 v, S.2) → W p l e R s m args below meth c H1 locs1 cells slots Q (F0 m (pc + 3) ls rest)) : W p l e R s m args below meth c H locs cells slots Q (F0 m pc ls (.int (iI v) :: .ref (G.2.2 15) :: rest)) :=
  pI X I (S1 := (us S.1 60 v, S.2)) (ci := 2) (C := RX2) (T := TX2) (N := 4) _ (atC_laying) rfl inlX2 tyX2 tyX2_ok nmX2 3 (by decide) hk rfl (tyX2_ok 3 (by decide)) (Nat.le_of_ble_eq_true rfl) sC_laying_bestFirst hdg kk
theorem atC_known : (wC G S)[31]? = some (G.2.2 31, .inr (1, [.ref (G.2.2 32), .ref (G.2.2 33), .ref (G.2.2 34), .ref (G.2.2 35), .int (iI (S.1 61 0)), .int (iI (S.1 62 0))])) := rfl
theorem gC_known_ids (X : CallFix p m c cc nL s args TB own) (I : In (KC G) s H0 H locs S) {idx : Nat} (hk : Cond.fieldLink own idx "NameSeeker$Known" "ids" "[I" ∈ TB) (hdg : decode cc pc = .ok (.getfield idx, 3)) (kk : W p l e R s m args below meth c H locs cells slots Q (F0 m (pc + 3) ls (.ref (G.2.2 32) :: rest))) : W p l e R s m args below meth c H locs cells slots Q (F0 m pc ls (.ref (G.2.2 31) :: rest)) := gI X I (ci := 1) (C := RX1) (T := TX1) (N := 6) _ (atC_known) rfl inlX1 0 (by decide) hk rfl hdg kk
theorem gC_known_codes (X : CallFix p m c cc nL s args TB own) (I : In (KC G) s H0 H locs S) {idx : Nat} (hk : Cond.fieldLink own idx "NameSeeker$Known" "codes" "[J" ∈ TB) (hdg : decode cc pc = .ok (.getfield idx, 3)) (kk : W p l e R s m args below meth c H locs cells slots Q (F0 m (pc + 3) ls (.ref (G.2.2 33) :: rest))) : W p l e R s m args below meth c H locs cells slots Q (F0 m pc ls (.ref (G.2.2 31) :: rest)) := gI X I (ci := 1) (C := RX1) (T := TX1) (N := 6) _ (atC_known) rfl inlX1 1 (by decide) hk rfl hdg kk
theorem gC_known_ages (X : CallFix p m c cc nL s args TB own) (I : In (KC G) s H0 H locs S) {idx : Nat} (hk : Cond.fieldLink own idx "NameSeeker$Known" "ages" "[I" ∈ TB) (hdg : decode cc pc = .ok (.getfield idx, 3)) (kk : W p l e R s m args below meth c H locs cells slots Q (F0 m (pc + 3) ls (.ref (G.2.2 34) :: rest))) : W p l e R s m args below meth c H locs cells slots Q (F0 m pc ls (.ref (G.2.2 31) :: rest)) := gI X I (ci := 1) (C := RX1) (T := TX1) (N := 6) _ (atC_known) rfl inlX1 2 (by decide) hk rfl hdg kk
theorem gC_known_scores (X : CallFix p m c cc nL s args TB own) (I : In (KC G) s H0 H locs S) {idx : Nat} (hk : Cond.fieldLink own idx "NameSeeker$Known" "scores" "[I" ∈ TB) (hdg : decode cc pc = .ok (.getfield idx, 3)) (kk : W p l e R s m args below meth c H locs cells slots Q (F0 m (pc + 3) ls (.ref (G.2.2 35) :: rest))) : W p l e R s m args below meth c H locs cells slots Q (F0 m pc ls (.ref (G.2.2 31) :: rest)) := gI X I (ci := 1) (C := RX1) (T := TX1) (N := 6) _ (atC_known) rfl inlX1 3 (by decide) hk rfl hdg kk
theorem gC_known_hits (X : CallFix p m c cc nL s args TB own) (I : In (KC G) s H0 H locs S) {idx : Nat} {v : Int} (hv : S.1 61 0 = v) (hk : Cond.fieldLink own idx "NameSeeker$Known" "hits" "I" ∈ TB) (hdg : decode cc pc = .ok (.getfield idx, 3)) (kk : W p l e R s m args below meth c H locs cells slots Q (F0 m (pc + 3) ls (.int (iI v) :: rest))) : W p l e R s m args below meth c H locs cells slots Q (F0 m pc ls (.ref (G.2.2 31) :: rest)) := by
  subst hv
  exact gI X I (ci := 1) (C := RX1) (T := TX1) (N := 6) _ (atC_known) rfl inlX1 4 (by decide) hk rfl hdg kk
theorem sC_known_hits {v : Int} : (wC G S).set 31 (G.2.2 31, .inr (1, [.ref (G.2.2 32), .ref (G.2.2 33), .ref (G.2.2 34), .ref (G.2.2 35), .int (iI v), .int (iI (S.1 62 0))])) = wC G (us S.1 61 v, S.2) := rfl
theorem pC_known_hits (X : CallFix p m c cc nL s args TB own) (I : In (KC G) s H0 H locs S) {idx : Nat} {v : Int} (hk : Cond.fieldLink own idx "NameSeeker$Known" "hits" "I" ∈ TB) (hdg : decode cc pc = .ok (.putfield idx, 3)) (kk : ∀ (H1 : Heap) (locs1 : List Loc), In (KC G) s H0 H1 locs1 (us S.1 61 v, S.2) → W p l e R s m args below meth c H1 locs1 cells slots Q (F0 m (pc + 3) ls rest)) : W p l e R s m args below meth c H locs cells slots Q (F0 m pc ls (.int (iI v) :: .ref (G.2.2 31) :: rest)) :=
  pI X I (S1 := (us S.1 61 v, S.2)) (ci := 1) (C := RX1) (T := TX1) (N := 6) _ (atC_known) rfl inlX1 tyX1 tyX1_ok nmX1 4 (by decide) hk rfl (tyX1_ok 4 (by decide)) (Nat.le_of_ble_eq_true rfl) sC_known_hits hdg kk
theorem gC_known_misses (X : CallFix p m c cc nL s args TB own) (I : In (KC G) s H0 H locs S) {idx : Nat} {v : Int} (hv : S.1 62 0 = v) (hk : Cond.fieldLink own idx "NameSeeker$Known" "misses" "I" ∈ TB) (hdg : decode cc pc = .ok (.getfield idx, 3)) (kk : W p l e R s m args below meth c H locs cells slots Q (F0 m (pc + 3) ls (.int (iI v) :: rest))) : W p l e R s m args below meth c H locs cells slots Q (F0 m pc ls (.ref (G.2.2 31) :: rest)) := by
  subst hv
  exact gI X I (ci := 1) (C := RX1) (T := TX1) (N := 6) _ (atC_known) rfl inlX1 5 (by decide) hk rfl hdg kk
theorem sC_known_misses {v : Int} : (wC G S).set 31 (G.2.2 31, .inr (1, [.ref (G.2.2 32), .ref (G.2.2 33), .ref (G.2.2 34), .ref (G.2.2 35), .int (iI (S.1 61 0)), .int (iI v)])) = wC G (us S.1 62 v, S.2) := rfl
theorem pC_known_misses (X : CallFix p m c cc nL s args TB own) (I : In (KC G) s H0 H locs S) {idx : Nat} {v : Int} (hk : Cond.fieldLink own idx "NameSeeker$Known" "misses" "I" ∈ TB) (hdg : decode cc pc = .ok (.putfield idx, 3)) (kk : ∀ (H1 : Heap) (locs1 : List Loc), In (KC G) s H0 H1 locs1 (us S.1 62 v, S.2) → W p l e R s m args below meth c H1 locs1 cells slots Q (F0 m (pc + 3) ls rest)) : W p l e R s m args below meth c H locs cells slots Q (F0 m pc ls (.int (iI v) :: .ref (G.2.2 31) :: rest)) :=
  pI X I (S1 := (us S.1 62 v, S.2)) (ci := 1) (C := RX1) (T := TX1) (N := 6) _ (atC_known) rfl inlX1 tyX1 tyX1_ok nmX1 5 (by decide) hk rfl (tyX1_ok 5 (by decide)) (Nat.le_of_ble_eq_true rfl) sC_known_misses hdg kk
theorem atC_asked : (wC G S)[36]? = some (G.2.2 36, .inr (0, [.ref (G.2.2 37), .int (iI (S.1 63 0))])) := rfl
theorem gC_asked_codes (X : CallFix p m c cc nL s args TB own) (I : In (KC G) s H0 H locs S) {idx : Nat} (hk : Cond.fieldLink own idx "NameSeeker$Asked" "codes" "[J" ∈ TB) (hdg : decode cc pc = .ok (.getfield idx, 3)) (kk : W p l e R s m args below meth c H locs cells slots Q (F0 m (pc + 3) ls (.ref (G.2.2 37) :: rest))) : W p l e R s m args below meth c H locs cells slots Q (F0 m pc ls (.ref (G.2.2 36) :: rest)) := gI X I (ci := 0) (C := RX0) (T := TX0) (N := 2) _ (atC_asked) rfl inlX0 0 (by decide) hk rfl hdg kk
theorem gC_asked_size (X : CallFix p m c cc nL s args TB own) (I : In (KC G) s H0 H locs S) {idx : Nat} {v : Int} (hv : S.1 63 0 = v) (hk : Cond.fieldLink own idx "NameSeeker$Asked" "size" "I" ∈ TB) (hdg : decode cc pc = .ok (.getfield idx, 3)) (kk : W p l e R s m args below meth c H locs cells slots Q (F0 m (pc + 3) ls (.int (iI v) :: rest))) : W p l e R s m args below meth c H locs cells slots Q (F0 m pc ls (.ref (G.2.2 36) :: rest)) := by
  subst hv
  exact gI X I (ci := 0) (C := RX0) (T := TX0) (N := 2) _ (atC_asked) rfl inlX0 1 (by decide) hk rfl hdg kk
theorem sC_asked_size {v : Int} : (wC G S).set 36 (G.2.2 36, .inr (0, [.ref (G.2.2 37), .int (iI v)])) = wC G (us S.1 63 v, S.2) := rfl
theorem pC_asked_size (X : CallFix p m c cc nL s args TB own) (I : In (KC G) s H0 H locs S) {idx : Nat} {v : Int} (hk : Cond.fieldLink own idx "NameSeeker$Asked" "size" "I" ∈ TB) (hdg : decode cc pc = .ok (.putfield idx, 3)) (kk : ∀ (H1 : Heap) (locs1 : List Loc), In (KC G) s H0 H1 locs1 (us S.1 63 v, S.2) → W p l e R s m args below meth c H1 locs1 cells slots Q (F0 m (pc + 3) ls rest)) : W p l e R s m args below meth c H locs cells slots Q (F0 m pc ls (.int (iI v) :: .ref (G.2.2 36) :: rest)) :=
  pI X I (S1 := (us S.1 63 v, S.2)) (ci := 0) (C := RX0) (T := TX0) (N := 2) _ (atC_asked) rfl inlX0 tyX0 tyX0_ok nmX0 1 (by decide) hk rfl (tyX0_ok 1 (by decide)) (Nat.le_of_ble_eq_true rfl) sC_asked_size hdg kk
theorem atC_ranking : (wC G S)[38]? = some (G.2.2 38, .inr (5, [.ref (G.2.2 39), .ref (G.2.2 40), .int (iI (S.1 64 0))])) := rfl
theorem gC_ranking_scores (X : CallFix p m c cc nL s args TB own) (I : In (KC G) s H0 H locs S) {idx : Nat} (hk : Cond.fieldLink own idx "NameSeeker$Ranking" "scores" "[I" ∈ TB) (hdg : decode cc pc = .ok (.getfield idx, 3)) (kk : W p l e R s m args below meth c H locs cells slots Q (F0 m (pc + 3) ls (.ref (G.2.2 39) :: rest))) : W p l e R s m args below meth c H locs cells slots Q (F0 m pc ls (.ref (G.2.2 38) :: rest)) := gI X I (ci := 5) (C := RX5) (T := TX5) (N := 3) _ (atC_ranking) rfl inlX5 0 (by decide) hk rfl hdg kk
theorem gC_ranking_numbers (X : CallFix p m c cc nL s args TB own) (I : In (KC G) s H0 H locs S) {idx : Nat} (hk : Cond.fieldLink own idx "NameSeeker$Ranking" "numbers" "[I" ∈ TB) (hdg : decode cc pc = .ok (.getfield idx, 3)) (kk : W p l e R s m args below meth c H locs cells slots Q (F0 m (pc + 3) ls (.ref (G.2.2 40) :: rest))) : W p l e R s m args below meth c H locs cells slots Q (F0 m pc ls (.ref (G.2.2 38) :: rest)) := gI X I (ci := 5) (C := RX5) (T := TX5) (N := 3) _ (atC_ranking) rfl inlX5 1 (by decide) hk rfl hdg kk
theorem gC_ranking_size (X : CallFix p m c cc nL s args TB own) (I : In (KC G) s H0 H locs S) {idx : Nat} {v : Int} (hv : S.1 64 0 = v) (hk : Cond.fieldLink own idx "NameSeeker$Ranking" "size" "I" ∈ TB) (hdg : decode cc pc = .ok (.getfield idx, 3)) (kk : W p l e R s m args below meth c H locs cells slots Q (F0 m (pc + 3) ls (.int (iI v) :: rest))) : W p l e R s m args below meth c H locs cells slots Q (F0 m pc ls (.ref (G.2.2 38) :: rest)) := by
  subst hv
  exact gI X I (ci := 5) (C := RX5) (T := TX5) (N := 3) _ (atC_ranking) rfl inlX5 2 (by decide) hk rfl hdg kk
theorem sC_ranking_size {v : Int} : (wC G S).set 38 (G.2.2 38, .inr (5, [.ref (G.2.2 39), .ref (G.2.2 40), .int (iI v)])) = wC G (us S.1 64 v, S.2) := rfl
theorem pC_ranking_size (X : CallFix p m c cc nL s args TB own) (I : In (KC G) s H0 H locs S) {idx : Nat} {v : Int} (hk : Cond.fieldLink own idx "NameSeeker$Ranking" "size" "I" ∈ TB) (hdg : decode cc pc = .ok (.putfield idx, 3)) (kk : ∀ (H1 : Heap) (locs1 : List Loc), In (KC G) s H0 H1 locs1 (us S.1 64 v, S.2) → W p l e R s m args below meth c H1 locs1 cells slots Q (F0 m (pc + 3) ls rest)) : W p l e R s m args below meth c H locs cells slots Q (F0 m pc ls (.int (iI v) :: .ref (G.2.2 38) :: rest)) :=
  pI X I (S1 := (us S.1 64 v, S.2)) (ci := 5) (C := RX5) (T := TX5) (N := 3) _ (atC_ranking) rfl inlX5 tyX5 tyX5_ok nmX5 2 (by decide) hk rfl (tyX5_ok 2 (by decide)) (Nat.le_of_ble_eq_true rfl) sC_ranking_size hdg kk
theorem atC_name {j : Nat} (hj : j < 8) : (wC G S)[(41 + 2 * j)]? = some (G.2.2 (41 + 2 * j), .inr (4, [.ref (G.2.2 (42 + 2 * j)), .int (iI (S.1 2 (j : Int))), .int (iI (S.1 3 (j : Int))), .int (iI (S.1 4 (j : Int))), .int (iI (S.1 5 (j : Int))), .int (iI (S.1 6 (j : Int))), .int (iI (S.1 7 (j : Int)))])) := by
  match j, hj with
  | 0, _ => rfl
  | 1, _ => rfl
  | 2, _ => rfl
  | 3, _ => rfl
  | 4, _ => rfl
  | 5, _ => rfl
  | 6, _ => rfl
  | 7, _ => rfl
theorem gC_name_signs (X : CallFix p m c cc nL s args TB own) (I : In (KC G) s H0 H locs S) {j : Nat} (hj : j < 8) {idx : Nat} (hk : Cond.fieldLink own idx "NameSeeker$Name" "signs" "[C" ∈ TB) (hdg : decode cc pc = .ok (.getfield idx, 3)) (kk : W p l e R s m args below meth c H locs cells slots Q (F0 m (pc + 3) ls (.ref (G.2.2 (42 + 2 * j)) :: rest))) : W p l e R s m args below meth c H locs cells slots Q (F0 m pc ls (.ref (G.2.2 (41 + 2 * j)) :: rest)) := gI X I (ci := 4) (C := RX4) (T := TX4) (N := 7) _ (atC_name hj) rfl inlX4 0 (by decide) hk rfl hdg kk
theorem gC_name_size (X : CallFix p m c cc nL s args TB own) (I : In (KC G) s H0 H locs S) {j : Nat} (hj : j < 8) {idx : Nat} {v : Int} (hv : S.1 2 (j : Int) = v) (hk : Cond.fieldLink own idx "NameSeeker$Name" "size" "I" ∈ TB) (hdg : decode cc pc = .ok (.getfield idx, 3)) (kk : W p l e R s m args below meth c H locs cells slots Q (F0 m (pc + 3) ls (.int (iI v) :: rest))) : W p l e R s m args below meth c H locs cells slots Q (F0 m pc ls (.ref (G.2.2 (41 + 2 * j)) :: rest)) := by
  subst hv
  exact gI X I (ci := 4) (C := RX4) (T := TX4) (N := 7) _ (atC_name hj) rfl inlX4 1 (by decide) hk rfl hdg kk
theorem sC_name_size {v : Int} {j : Nat} (hj : j < 8) : (wC G S).set (41 + 2 * j) (G.2.2 (41 + 2 * j), .inr (4, [.ref (G.2.2 (42 + 2 * j)), .int (iI v), .int (iI (S.1 3 (j : Int))), .int (iI (S.1 4 (j : Int))), .int (iI (S.1 5 (j : Int))), .int (iI (S.1 6 (j : Int))), .int (iI (S.1 7 (j : Int)))])) = wC G (ua S.1 2 (j : Int) v, S.2) := by
  match j, hj with
  | 0, _ => rfl
  | 1, _ => rfl
  | 2, _ => rfl
  | 3, _ => rfl
  | 4, _ => rfl
  | 5, _ => rfl
  | 6, _ => rfl
  | 7, _ => rfl
theorem pC_name_size (X : CallFix p m c cc nL s args TB own) (I : In (KC G) s H0 H locs S) {j : Nat} (hj : j < 8) {idx : Nat} {v : Int} (hk : Cond.fieldLink own idx "NameSeeker$Name" "size" "I" ∈ TB) (hdg : decode cc pc = .ok (.putfield idx, 3)) (kk : ∀ (H1 : Heap) (locs1 : List Loc), In (KC G) s H0 H1 locs1 (ua S.1 2 (j : Int) v, S.2) → W p l e R s m args below meth c H1 locs1 cells slots Q (F0 m (pc + 3) ls rest)) : W p l e R s m args below meth c H locs cells slots Q (F0 m pc ls (.int (iI v) :: .ref (G.2.2 (41 + 2 * j)) :: rest)) :=
  pI X I (S1 := (ua S.1 2 (j : Int) v, S.2)) (ci := 4) (C := RX4) (T := TX4) (N := 7) _ (atC_name hj) rfl inlX4 tyX4 tyX4_ok nmX4 1 (by decide) hk rfl (tyX4_ok 1 (by decide)) (Nat.le_of_ble_eq_true rfl) (sC_name_size hj) hdg kk
theorem gC_name_kind (X : CallFix p m c cc nL s args TB own) (I : In (KC G) s H0 H locs S) {j : Nat} (hj : j < 8) {idx : Nat} {v : Int} (hv : S.1 3 (j : Int) = v) (hk : Cond.fieldLink own idx "NameSeeker$Name" "kind" "I" ∈ TB) (hdg : decode cc pc = .ok (.getfield idx, 3)) (kk : W p l e R s m args below meth c H locs cells slots Q (F0 m (pc + 3) ls (.int (iI v) :: rest))) : W p l e R s m args below meth c H locs cells slots Q (F0 m pc ls (.ref (G.2.2 (41 + 2 * j)) :: rest)) := by
  subst hv
  exact gI X I (ci := 4) (C := RX4) (T := TX4) (N := 7) _ (atC_name hj) rfl inlX4 2 (by decide) hk rfl hdg kk
theorem sC_name_kind {v : Int} {j : Nat} (hj : j < 8) : (wC G S).set (41 + 2 * j) (G.2.2 (41 + 2 * j), .inr (4, [.ref (G.2.2 (42 + 2 * j)), .int (iI (S.1 2 (j : Int))), .int (iI v), .int (iI (S.1 4 (j : Int))), .int (iI (S.1 5 (j : Int))), .int (iI (S.1 6 (j : Int))), .int (iI (S.1 7 (j : Int)))])) = wC G (ua S.1 3 (j : Int) v, S.2) := by
  match j, hj with
  | 0, _ => rfl
  | 1, _ => rfl
  | 2, _ => rfl
  | 3, _ => rfl
  | 4, _ => rfl
  | 5, _ => rfl
  | 6, _ => rfl
  | 7, _ => rfl
theorem pC_name_kind (X : CallFix p m c cc nL s args TB own) (I : In (KC G) s H0 H locs S) {j : Nat} (hj : j < 8) {idx : Nat} {v : Int} (hk : Cond.fieldLink own idx "NameSeeker$Name" "kind" "I" ∈ TB) (hdg : decode cc pc = .ok (.putfield idx, 3)) (kk : ∀ (H1 : Heap) (locs1 : List Loc), In (KC G) s H0 H1 locs1 (ua S.1 3 (j : Int) v, S.2) → W p l e R s m args below meth c H1 locs1 cells slots Q (F0 m (pc + 3) ls rest)) : W p l e R s m args below meth c H locs cells slots Q (F0 m pc ls (.int (iI v) :: .ref (G.2.2 (41 + 2 * j)) :: rest)) :=
  pI X I (S1 := (ua S.1 3 (j : Int) v, S.2)) (ci := 4) (C := RX4) (T := TX4) (N := 7) _ (atC_name hj) rfl inlX4 tyX4 tyX4_ok nmX4 2 (by decide) hk rfl (tyX4_ok 2 (by decide)) (Nat.le_of_ble_eq_true rfl) (sC_name_kind hj) hdg kk
theorem gC_name_id (X : CallFix p m c cc nL s args TB own) (I : In (KC G) s H0 H locs S) {j : Nat} (hj : j < 8) {idx : Nat} {v : Int} (hv : S.1 4 (j : Int) = v) (hk : Cond.fieldLink own idx "NameSeeker$Name" "id" "I" ∈ TB) (hdg : decode cc pc = .ok (.getfield idx, 3)) (kk : W p l e R s m args below meth c H locs cells slots Q (F0 m (pc + 3) ls (.int (iI v) :: rest))) : W p l e R s m args below meth c H locs cells slots Q (F0 m pc ls (.ref (G.2.2 (41 + 2 * j)) :: rest)) := by
  subst hv
  exact gI X I (ci := 4) (C := RX4) (T := TX4) (N := 7) _ (atC_name hj) rfl inlX4 3 (by decide) hk rfl hdg kk
theorem sC_name_id {v : Int} {j : Nat} (hj : j < 8) : (wC G S).set (41 + 2 * j) (G.2.2 (41 + 2 * j), .inr (4, [.ref (G.2.2 (42 + 2 * j)), .int (iI (S.1 2 (j : Int))), .int (iI (S.1 3 (j : Int))), .int (iI v), .int (iI (S.1 5 (j : Int))), .int (iI (S.1 6 (j : Int))), .int (iI (S.1 7 (j : Int)))])) = wC G (ua S.1 4 (j : Int) v, S.2) := by
  match j, hj with
  | 0, _ => rfl
  | 1, _ => rfl
  | 2, _ => rfl
  | 3, _ => rfl
  | 4, _ => rfl
  | 5, _ => rfl
  | 6, _ => rfl
  | 7, _ => rfl
theorem pC_name_id (X : CallFix p m c cc nL s args TB own) (I : In (KC G) s H0 H locs S) {j : Nat} (hj : j < 8) {idx : Nat} {v : Int} (hk : Cond.fieldLink own idx "NameSeeker$Name" "id" "I" ∈ TB) (hdg : decode cc pc = .ok (.putfield idx, 3)) (kk : ∀ (H1 : Heap) (locs1 : List Loc), In (KC G) s H0 H1 locs1 (ua S.1 4 (j : Int) v, S.2) → W p l e R s m args below meth c H1 locs1 cells slots Q (F0 m (pc + 3) ls rest)) : W p l e R s m args below meth c H locs cells slots Q (F0 m pc ls (.int (iI v) :: .ref (G.2.2 (41 + 2 * j)) :: rest)) :=
  pI X I (S1 := (ua S.1 4 (j : Int) v, S.2)) (ci := 4) (C := RX4) (T := TX4) (N := 7) _ (atC_name hj) rfl inlX4 tyX4 tyX4_ok nmX4 3 (by decide) hk rfl (tyX4_ok 3 (by decide)) (Nat.le_of_ble_eq_true rfl) (sC_name_id hj) hdg kk
theorem gC_name_picked (X : CallFix p m c cc nL s args TB own) (I : In (KC G) s H0 H locs S) {j : Nat} (hj : j < 8) {idx : Nat} {v : Int} (hv : S.1 5 (j : Int) = v) (hk : Cond.fieldLink own idx "NameSeeker$Name" "picked" "I" ∈ TB) (hdg : decode cc pc = .ok (.getfield idx, 3)) (kk : W p l e R s m args below meth c H locs cells slots Q (F0 m (pc + 3) ls (.int (iI v) :: rest))) : W p l e R s m args below meth c H locs cells slots Q (F0 m pc ls (.ref (G.2.2 (41 + 2 * j)) :: rest)) := by
  subst hv
  exact gI X I (ci := 4) (C := RX4) (T := TX4) (N := 7) _ (atC_name hj) rfl inlX4 4 (by decide) hk rfl hdg kk
theorem sC_name_picked {v : Int} {j : Nat} (hj : j < 8) : (wC G S).set (41 + 2 * j) (G.2.2 (41 + 2 * j), .inr (4, [.ref (G.2.2 (42 + 2 * j)), .int (iI (S.1 2 (j : Int))), .int (iI (S.1 3 (j : Int))), .int (iI (S.1 4 (j : Int))), .int (iI v), .int (iI (S.1 6 (j : Int))), .int (iI (S.1 7 (j : Int)))])) = wC G (ua S.1 5 (j : Int) v, S.2) := by
  match j, hj with
  | 0, _ => rfl
  | 1, _ => rfl
  | 2, _ => rfl
  | 3, _ => rfl
  | 4, _ => rfl
  | 5, _ => rfl
  | 6, _ => rfl
  | 7, _ => rfl
theorem pC_name_picked (X : CallFix p m c cc nL s args TB own) (I : In (KC G) s H0 H locs S) {j : Nat} (hj : j < 8) {idx : Nat} {v : Int} (hk : Cond.fieldLink own idx "NameSeeker$Name" "picked" "I" ∈ TB) (hdg : decode cc pc = .ok (.putfield idx, 3)) (kk : ∀ (H1 : Heap) (locs1 : List Loc), In (KC G) s H0 H1 locs1 (ua S.1 5 (j : Int) v, S.2) → W p l e R s m args below meth c H1 locs1 cells slots Q (F0 m (pc + 3) ls rest)) : W p l e R s m args below meth c H locs cells slots Q (F0 m pc ls (.int (iI v) :: .ref (G.2.2 (41 + 2 * j)) :: rest)) :=
  pI X I (S1 := (ua S.1 5 (j : Int) v, S.2)) (ci := 4) (C := RX4) (T := TX4) (N := 7) _ (atC_name hj) rfl inlX4 tyX4 tyX4_ok nmX4 4 (by decide) hk rfl (tyX4_ok 4 (by decide)) (Nat.le_of_ble_eq_true rfl) (sC_name_picked hj) hdg kk
theorem gC_name_beginnings (X : CallFix p m c cc nL s args TB own) (I : In (KC G) s H0 H locs S) {j : Nat} (hj : j < 8) {idx : Nat} {v : Int} (hv : S.1 6 (j : Int) = v) (hk : Cond.fieldLink own idx "NameSeeker$Name" "beginnings" "I" ∈ TB) (hdg : decode cc pc = .ok (.getfield idx, 3)) (kk : W p l e R s m args below meth c H locs cells slots Q (F0 m (pc + 3) ls (.int (iI v) :: rest))) : W p l e R s m args below meth c H locs cells slots Q (F0 m pc ls (.ref (G.2.2 (41 + 2 * j)) :: rest)) := by
  subst hv
  exact gI X I (ci := 4) (C := RX4) (T := TX4) (N := 7) _ (atC_name hj) rfl inlX4 5 (by decide) hk rfl hdg kk
theorem sC_name_beginnings {v : Int} {j : Nat} (hj : j < 8) : (wC G S).set (41 + 2 * j) (G.2.2 (41 + 2 * j), .inr (4, [.ref (G.2.2 (42 + 2 * j)), .int (iI (S.1 2 (j : Int))), .int (iI (S.1 3 (j : Int))), .int (iI (S.1 4 (j : Int))), .int (iI (S.1 5 (j : Int))), .int (iI v), .int (iI (S.1 7 (j : Int)))])) = wC G (ua S.1 6 (j : Int) v, S.2) := by
  match j, hj with
  | 0, _ => rfl
  | 1, _ => rfl
  | 2, _ => rfl
  | 3, _ => rfl
  | 4, _ => rfl
  | 5, _ => rfl
  | 6, _ => rfl
  | 7, _ => rfl
theorem pC_name_beginnings (X : CallFix p m c cc nL s args TB own) (I : In (KC G) s H0 H locs S) {j : Nat} (hj : j < 8) {idx : Nat} {v : Int} (hk : Cond.fieldLink own idx "NameSeeker$Name" "beginnings" "I" ∈ TB) (hdg : decode cc pc = .ok (.putfield idx, 3)) (kk : ∀ (H1 : Heap) (locs1 : List Loc), In (KC G) s H0 H1 locs1 (ua S.1 6 (j : Int) v, S.2) → W p l e R s m args below meth c H1 locs1 cells slots Q (F0 m (pc + 3) ls rest)) : W p l e R s m args below meth c H locs cells slots Q (F0 m pc ls (.int (iI v) :: .ref (G.2.2 (41 + 2 * j)) :: rest)) :=
  pI X I (S1 := (ua S.1 6 (j : Int) v, S.2)) (ci := 4) (C := RX4) (T := TX4) (N := 7) _ (atC_name hj) rfl inlX4 tyX4 tyX4_ok nmX4 5 (by decide) hk rfl (tyX4_ok 5 (by decide)) (Nat.le_of_ble_eq_true rfl) (sC_name_beginnings hj) hdg kk
theorem gC_name_letterBits (X : CallFix p m c cc nL s args TB own) (I : In (KC G) s H0 H locs S) {j : Nat} (hj : j < 8) {idx : Nat} {v : Int} (hv : S.1 7 (j : Int) = v) (hk : Cond.fieldLink own idx "NameSeeker$Name" "letterBits" "I" ∈ TB) (hdg : decode cc pc = .ok (.getfield idx, 3)) (kk : W p l e R s m args below meth c H locs cells slots Q (F0 m (pc + 3) ls (.int (iI v) :: rest))) : W p l e R s m args below meth c H locs cells slots Q (F0 m pc ls (.ref (G.2.2 (41 + 2 * j)) :: rest)) := by
  subst hv
  exact gI X I (ci := 4) (C := RX4) (T := TX4) (N := 7) _ (atC_name hj) rfl inlX4 6 (by decide) hk rfl hdg kk
theorem sC_name_letterBits {v : Int} {j : Nat} (hj : j < 8) : (wC G S).set (41 + 2 * j) (G.2.2 (41 + 2 * j), .inr (4, [.ref (G.2.2 (42 + 2 * j)), .int (iI (S.1 2 (j : Int))), .int (iI (S.1 3 (j : Int))), .int (iI (S.1 4 (j : Int))), .int (iI (S.1 5 (j : Int))), .int (iI (S.1 6 (j : Int))), .int (iI v)])) = wC G (ua S.1 7 (j : Int) v, S.2) := by
  match j, hj with
  | 0, _ => rfl
  | 1, _ => rfl
  | 2, _ => rfl
  | 3, _ => rfl
  | 4, _ => rfl
  | 5, _ => rfl
  | 6, _ => rfl
  | 7, _ => rfl
theorem pC_name_letterBits (X : CallFix p m c cc nL s args TB own) (I : In (KC G) s H0 H locs S) {j : Nat} (hj : j < 8) {idx : Nat} {v : Int} (hk : Cond.fieldLink own idx "NameSeeker$Name" "letterBits" "I" ∈ TB) (hdg : decode cc pc = .ok (.putfield idx, 3)) (kk : ∀ (H1 : Heap) (locs1 : List Loc), In (KC G) s H0 H1 locs1 (ua S.1 7 (j : Int) v, S.2) → W p l e R s m args below meth c H1 locs1 cells slots Q (F0 m (pc + 3) ls rest)) : W p l e R s m args below meth c H locs cells slots Q (F0 m pc ls (.int (iI v) :: .ref (G.2.2 (41 + 2 * j)) :: rest)) :=
  pI X I (S1 := (ua S.1 7 (j : Int) v, S.2)) (ci := 4) (C := RX4) (T := TX4) (N := 7) _ (atC_name hj) rfl inlX4 tyX4 tyX4_ok nmX4 6 (by decide) hk rfl (tyX4_ok 6 (by decide)) (Nat.le_of_ble_eq_true rfl) (sC_name_letterBits hj) hdg kk
theorem atC_text_a : (wC G S)[2]? = some (G.2.2 2, .inl (G.2.1 0, 200, .inl (fun i : Nat => iI (S.1 0 i)))) := rfl
theorem aC_text (X : CallFix p m c cc nL s args TB own) (I : In (KC G) s H0 H locs S) {z v : Int} (hv : S.1 0 z = v) (h0 : 0 ≤ z ∧ z < 200) (hdg : decode cc pc = .ok (.caload, 1)) (kk : W p l e R s m args below meth c H locs cells slots Q (F0 m (pc + 1) ls (.int (iI v) :: rest))) : W p l e R s m args below meth c H locs cells slots Q (F0 m pc ls (.int (iI z) :: .ref (G.2.2 2) :: rest)) := by
  subst hv
  exact aldC X I _ 0 (atC_text_a) rfl h0 (by decide) hdg kk
theorem sC_text_a {z v : Int} : (wC G S).set 2 (G.2.2 2, .inl (G.2.1 0, 200, .inl (fun i : Nat => iI (ua S.1 0 z v 0 i)))) = wC G (ua S.1 0 z v, S.2) := rfl
theorem qC_text (X : CallFix p m c cc nL s args TB own) (I : In (KC G) s H0 H locs S) {z v : Int} (h0 : 0 ≤ z ∧ z < 200) (hc : 0 ≤ v ∧ v < 65536) (hdg : decode cc pc = .ok (.castore, 1)) (kk : ∀ (H1 : Heap) (locs1 : List Loc), In (KC G) s H0 H1 locs1 (ua S.1 0 z v, S.2) → W p l e R s m args below meth c H1 locs1 cells slots Q (F0 m (pc + 1) ls rest)) : W p l e R s m args below meth c H locs cells slots Q (F0 m pc ls (.int (iI v) :: .int (iI z) :: .ref (G.2.2 2) :: rest)) := astC X I (f := S.1) (k := 0) (S1 := (ua S.1 0 z v, S.2)) _ 0 (atC_text_a) rfl h0 (by decide) hc sC_text_a hdg kk
theorem atC_names_a : (wC G S)[4]? = some (G.2.2 4, .inl (G.2.1 3, 8, .inr (.inr (.inr (.inr (fun i : Nat => some (G.2.2 (41 + 2 * S.2 i)))))))) := rfl
theorem aC_names (X : CallFix p m c cc nL s args TB own) (I : In (KC G) s H0 H locs S) {z : Int} (h0 : 0 ≤ z ∧ z < 8) (hdg : decode cc pc = .ok (.aaload, 1)) (kk : W p l e R s m args below meth c H locs cells slots Q (F0 m (pc + 1) ls (.ref (G.2.2 (41 + 2 * S.2 z.toNat)) :: rest))) : W p l e R s m args below meth c H locs cells slots Q (F0 m pc ls (.int (iI z) :: .ref (G.2.2 4) :: rest)) := aldR X I _ 3 (atC_names_a) rfl h0 (by decide) rfl hdg kk
theorem atC_word_a {w : Nat} (hw : w < 4) : (wC G S)[(7 + 2 * w)]? = some (G.2.2 (7 + 2 * w), .inl (G.2.1 0, 6, .inl (fun i : Nat => iI (S.1 (16 + w) i)))) := by
  match w, hw with
  | 0, _ => rfl
  | 1, _ => rfl
  | 2, _ => rfl
  | 3, _ => rfl
theorem aC_word (X : CallFix p m c cc nL s args TB own) (I : In (KC G) s H0 H locs S) {w : Nat} (hw : w < 4) {z v : Int} (hv : S.1 (16 + w) z = v) (h0 : 0 ≤ z ∧ z < 6) (hdg : decode cc pc = .ok (.caload, 1)) (kk : W p l e R s m args below meth c H locs cells slots Q (F0 m (pc + 1) ls (.int (iI v) :: rest))) : W p l e R s m args below meth c H locs cells slots Q (F0 m pc ls (.int (iI z) :: .ref (G.2.2 (7 + 2 * w)) :: rest)) := by
  subst hv
  exact aldC X I _ 0 (atC_word_a hw) rfl h0 (by decide) hdg kk
theorem sC_word_a {z v : Int} {w : Nat} (hw : w < 4) : (wC G S).set (7 + 2 * w) (G.2.2 (7 + 2 * w), .inl (G.2.1 0, 6, .inl (fun i : Nat => iI (ua S.1 (16 + w) z v (16 + w) i)))) = wC G (ua S.1 (16 + w) z v, S.2) := by
  match w, hw with
  | 0, _ => rfl
  | 1, _ => rfl
  | 2, _ => rfl
  | 3, _ => rfl
theorem qC_word (X : CallFix p m c cc nL s args TB own) (I : In (KC G) s H0 H locs S) {w : Nat} (hw : w < 4) {z v : Int} (h0 : 0 ≤ z ∧ z < 6) (hc : 0 ≤ v ∧ v < 65536) (hdg : decode cc pc = .ok (.castore, 1)) (kk : ∀ (H1 : Heap) (locs1 : List Loc), In (KC G) s H0 H1 locs1 (ua S.1 (16 + w) z v, S.2) → W p l e R s m args below meth c H1 locs1 cells slots Q (F0 m (pc + 1) ls rest)) : W p l e R s m args below meth c H locs cells slots Q (F0 m pc ls (.int (iI v) :: .int (iI z) :: .ref (G.2.2 (7 + 2 * w)) :: rest)) := astC X I (f := S.1) (k := (16 + w)) (S1 := (ua S.1 (16 + w) z v, S.2)) _ 0 (atC_word_a hw) rfl h0 (by decide) hc (sC_word_a hw) hdg kk
theorem atC_kept_a : (wC G S)[14]? = some (G.2.2 14, .inl (G.2.1 4, 2, .inr (.inr (.inr (.inr (fun i : Nat => some (G.2.2 (6 + 2 * (2 + i))))))))) := rfl
theorem aC_kept (X : CallFix p m c cc nL s args TB own) (I : In (KC G) s H0 H locs S) {z : Int} (h0 : 0 ≤ z ∧ z < 2) (hdg : decode cc pc = .ok (.aaload, 1)) (kk : W p l e R s m args below meth c H locs cells slots Q (F0 m (pc + 1) ls (.ref (G.2.2 (6 + 2 * (2 + z.toNat))) :: rest))) : W p l e R s m args below meth c H locs cells slots Q (F0 m pc ls (.int (iI z) :: .ref (G.2.2 14) :: rest)) := aldR X I _ 4 (atC_kept_a) rfl h0 (by decide) rfl hdg kk
theorem atC_tailsO_a : (wC G S)[16]? = some (G.2.2 16, .inl (G.2.1 5, 6, .inr (.inr (.inr (.inr (fun i : Nat => some (G.2.2 (17 + i)))))))) := rfl
theorem aC_tailsO (X : CallFix p m c cc nL s args TB own) (I : In (KC G) s H0 H locs S) {z : Int} (h0 : 0 ≤ z ∧ z < 6) (hdg : decode cc pc = .ok (.aaload, 1)) (kk : W p l e R s m args below meth c H locs cells slots Q (F0 m (pc + 1) ls (.ref (G.2.2 (17 + z.toNat)) :: rest))) : W p l e R s m args below meth c H locs cells slots Q (F0 m pc ls (.int (iI z) :: .ref (G.2.2 16) :: rest)) := aldA X I _ 5 (atC_tailsO_a) rfl h0 (by decide) rfl hdg kk
theorem atC_tails_a {k : Nat} (hk : k < 6) : (wC G S)[(17 + k)]? = some (G.2.2 (17 + k), .inl (G.2.1 1, 12, .inl (fun i : Nat => iI (S.1 (30 + k) i)))) := by
  match k, hk with
  | 0, _ => rfl
  | 1, _ => rfl
  | 2, _ => rfl
  | 3, _ => rfl
  | 4, _ => rfl
  | 5, _ => rfl
theorem aC_tails (X : CallFix p m c cc nL s args TB own) (I : In (KC G) s H0 H locs S) {k : Nat} (hk : k < 6) {z v : Int} (hv : S.1 (30 + k) z = v) (h0 : 0 ≤ z ∧ z < 12) (hdg : decode cc pc = .ok (.iaload, 1)) (kk : W p l e R s m args below meth c H locs cells slots Q (F0 m (pc + 1) ls (.int (iI v) :: rest))) : W p l e R s m args below meth c H locs cells slots Q (F0 m pc ls (.int (iI z) :: .ref (G.2.2 (17 + k)) :: rest)) := by
  subst hv
  exact aldI X I _ 1 (atC_tails_a hk) rfl h0 (by decide) hdg kk
theorem sC_tails_a {z v : Int} {k : Nat} (hk : k < 6) : (wC G S).set (17 + k) (G.2.2 (17 + k), .inl (G.2.1 1, 12, .inl (fun i : Nat => iI (ua S.1 (30 + k) z v (30 + k) i)))) = wC G (ua S.1 (30 + k) z v, S.2) := by
  match k, hk with
  | 0, _ => rfl
  | 1, _ => rfl
  | 2, _ => rfl
  | 3, _ => rfl
  | 4, _ => rfl
  | 5, _ => rfl
theorem qC_tails (X : CallFix p m c cc nL s args TB own) (I : In (KC G) s H0 H locs S) {k : Nat} (hk : k < 6) {z v : Int} (h0 : 0 ≤ z ∧ z < 12) (hdg : decode cc pc = .ok (.iastore, 1)) (kk : ∀ (H1 : Heap) (locs1 : List Loc), In (KC G) s H0 H1 locs1 (ua S.1 (30 + k) z v, S.2) → W p l e R s m args below meth c H1 locs1 cells slots Q (F0 m (pc + 1) ls rest)) : W p l e R s m args below meth c H locs cells slots Q (F0 m pc ls (.int (iI v) :: .int (iI z) :: .ref (G.2.2 (17 + k)) :: rest)) := astI X I (f := S.1) (k := (30 + k)) (S1 := (ua S.1 (30 + k) z v, S.2)) _ 1 (atC_tails_a hk) rfl h0 (by decide) (sC_tails_a hk) hdg kk
theorem atC_nextsO_a : (wC G S)[23]? = some (G.2.2 23, .inl (G.2.1 5, 6, .inr (.inr (.inr (.inr (fun i : Nat => some (G.2.2 (24 + i)))))))) := rfl
theorem aC_nextsO (X : CallFix p m c cc nL s args TB own) (I : In (KC G) s H0 H locs S) {z : Int} (h0 : 0 ≤ z ∧ z < 6) (hdg : decode cc pc = .ok (.aaload, 1)) (kk : W p l e R s m args below meth c H locs cells slots Q (F0 m (pc + 1) ls (.ref (G.2.2 (24 + z.toNat)) :: rest))) : W p l e R s m args below meth c H locs cells slots Q (F0 m pc ls (.int (iI z) :: .ref (G.2.2 23) :: rest)) := aldA X I _ 5 (atC_nextsO_a) rfl h0 (by decide) rfl hdg kk
theorem atC_nexts_a {k : Nat} (hk : k < 6) : (wC G S)[(24 + k)]? = some (G.2.2 (24 + k), .inl (G.2.1 1, 12, .inl (fun i : Nat => iI (S.1 (40 + k) i)))) := by
  match k, hk with
  | 0, _ => rfl
  | 1, _ => rfl
  | 2, _ => rfl
  | 3, _ => rfl
  | 4, _ => rfl
  | 5, _ => rfl
theorem aC_nexts (X : CallFix p m c cc nL s args TB own) (I : In (KC G) s H0 H locs S) {k : Nat} (hk : k < 6) {z v : Int} (hv : S.1 (40 + k) z = v) (h0 : 0 ≤ z ∧ z < 12) (hdg : decode cc pc = .ok (.iaload, 1)) (kk : W p l e R s m args below meth c H locs cells slots Q (F0 m (pc + 1) ls (.int (iI v) :: rest))) : W p l e R s m args below meth c H locs cells slots Q (F0 m pc ls (.int (iI z) :: .ref (G.2.2 (24 + k)) :: rest)) := by
  subst hv
  exact aldI X I _ 1 (atC_nexts_a hk) rfl h0 (by decide) hdg kk
theorem sC_nexts_a {z v : Int} {k : Nat} (hk : k < 6) : (wC G S).set (24 + k) (G.2.2 (24 + k), .inl (G.2.1 1, 12, .inl (fun i : Nat => iI (ua S.1 (40 + k) z v (40 + k) i)))) = wC G (ua S.1 (40 + k) z v, S.2) := by
  match k, hk with
  | 0, _ => rfl
  | 1, _ => rfl
  | 2, _ => rfl
  | 3, _ => rfl
  | 4, _ => rfl
  | 5, _ => rfl
theorem qC_nexts (X : CallFix p m c cc nL s args TB own) (I : In (KC G) s H0 H locs S) {k : Nat} (hk : k < 6) {z v : Int} (h0 : 0 ≤ z ∧ z < 12) (hdg : decode cc pc = .ok (.iastore, 1)) (kk : ∀ (H1 : Heap) (locs1 : List Loc), In (KC G) s H0 H1 locs1 (ua S.1 (40 + k) z v, S.2) → W p l e R s m args below meth c H1 locs1 cells slots Q (F0 m (pc + 1) ls rest)) : W p l e R s m args below meth c H locs cells slots Q (F0 m pc ls (.int (iI v) :: .int (iI z) :: .ref (G.2.2 (24 + k)) :: rest)) := astI X I (f := S.1) (k := (40 + k)) (S1 := (ua S.1 (40 + k) z v, S.2)) _ 1 (atC_nexts_a hk) rfl h0 (by decide) (sC_nexts_a hk) hdg kk
theorem atC_counts_a : (wC G S)[30]? = some (G.2.2 30, .inl (G.2.1 1, 7, .inl (fun i : Nat => iI (S.1 9 i)))) := rfl
theorem aC_counts (X : CallFix p m c cc nL s args TB own) (I : In (KC G) s H0 H locs S) {z v : Int} (hv : S.1 9 z = v) (h0 : 0 ≤ z ∧ z < 7) (hdg : decode cc pc = .ok (.iaload, 1)) (kk : W p l e R s m args below meth c H locs cells slots Q (F0 m (pc + 1) ls (.int (iI v) :: rest))) : W p l e R s m args below meth c H locs cells slots Q (F0 m pc ls (.int (iI z) :: .ref (G.2.2 30) :: rest)) := by
  subst hv
  exact aldI X I _ 1 (atC_counts_a) rfl h0 (by decide) hdg kk
theorem sC_counts_a {z v : Int} : (wC G S).set 30 (G.2.2 30, .inl (G.2.1 1, 7, .inl (fun i : Nat => iI (ua S.1 9 z v 9 i)))) = wC G (ua S.1 9 z v, S.2) := rfl
theorem qC_counts (X : CallFix p m c cc nL s args TB own) (I : In (KC G) s H0 H locs S) {z v : Int} (h0 : 0 ≤ z ∧ z < 7) (hdg : decode cc pc = .ok (.iastore, 1)) (kk : ∀ (H1 : Heap) (locs1 : List Loc), In (KC G) s H0 H1 locs1 (ua S.1 9 z v, S.2) → W p l e R s m args below meth c H1 locs1 cells slots Q (F0 m (pc + 1) ls rest)) : W p l e R s m args below meth c H locs cells slots Q (F0 m pc ls (.int (iI v) :: .int (iI z) :: .ref (G.2.2 30) :: rest)) := astI X I (f := S.1) (k := 9) (S1 := (ua S.1 9 z v, S.2)) _ 1 (atC_counts_a) rfl h0 (by decide) sC_counts_a hdg kk
theorem atC_ids_a : (wC G S)[32]? = some (G.2.2 32, .inl (G.2.1 1, 32, .inl (fun i : Nat => iI (S.1 10 i)))) := rfl
theorem aC_ids (X : CallFix p m c cc nL s args TB own) (I : In (KC G) s H0 H locs S) {z v : Int} (hv : S.1 10 z = v) (h0 : 0 ≤ z ∧ z < 32) (hdg : decode cc pc = .ok (.iaload, 1)) (kk : W p l e R s m args below meth c H locs cells slots Q (F0 m (pc + 1) ls (.int (iI v) :: rest))) : W p l e R s m args below meth c H locs cells slots Q (F0 m pc ls (.int (iI z) :: .ref (G.2.2 32) :: rest)) := by
  subst hv
  exact aldI X I _ 1 (atC_ids_a) rfl h0 (by decide) hdg kk
theorem sC_ids_a {z v : Int} : (wC G S).set 32 (G.2.2 32, .inl (G.2.1 1, 32, .inl (fun i : Nat => iI (ua S.1 10 z v 10 i)))) = wC G (ua S.1 10 z v, S.2) := rfl
theorem qC_ids (X : CallFix p m c cc nL s args TB own) (I : In (KC G) s H0 H locs S) {z v : Int} (h0 : 0 ≤ z ∧ z < 32) (hdg : decode cc pc = .ok (.iastore, 1)) (kk : ∀ (H1 : Heap) (locs1 : List Loc), In (KC G) s H0 H1 locs1 (ua S.1 10 z v, S.2) → W p l e R s m args below meth c H1 locs1 cells slots Q (F0 m (pc + 1) ls rest)) : W p l e R s m args below meth c H locs cells slots Q (F0 m pc ls (.int (iI v) :: .int (iI z) :: .ref (G.2.2 32) :: rest)) := astI X I (f := S.1) (k := 10) (S1 := (ua S.1 10 z v, S.2)) _ 1 (atC_ids_a) rfl h0 (by decide) sC_ids_a hdg kk
theorem atC_kcodes_a : (wC G S)[33]? = some (G.2.2 33, .inl (G.2.1 2, 32, .inr (.inl (fun i : Nat => lI (S.1 11 i))))) := rfl
theorem aC_kcodes (X : CallFix p m c cc nL s args TB own) (I : In (KC G) s H0 H locs S) {z v : Int} (hv : S.1 11 z = v) (h0 : 0 ≤ z ∧ z < 32) (hdg : decode cc pc = .ok (.laload, 1)) (kk : W p l e R s m args below meth c H locs cells slots Q (F0 m (pc + 1) ls (.long (lI v) :: rest))) : W p l e R s m args below meth c H locs cells slots Q (F0 m pc ls (.int (iI z) :: .ref (G.2.2 33) :: rest)) := by
  subst hv
  exact aldL X I _ 2 (atC_kcodes_a) rfl h0 (by decide) hdg kk
theorem sC_kcodes_a {z v : Int} : (wC G S).set 33 (G.2.2 33, .inl (G.2.1 2, 32, .inr (.inl (fun i : Nat => lI (ua S.1 11 z v 11 i))))) = wC G (ua S.1 11 z v, S.2) := rfl
theorem qC_kcodes (X : CallFix p m c cc nL s args TB own) (I : In (KC G) s H0 H locs S) {z v : Int} (h0 : 0 ≤ z ∧ z < 32) (hdg : decode cc pc = .ok (.lastore, 1)) (kk : ∀ (H1 : Heap) (locs1 : List Loc), In (KC G) s H0 H1 locs1 (ua S.1 11 z v, S.2) → W p l e R s m args below meth c H1 locs1 cells slots Q (F0 m (pc + 1) ls rest)) : W p l e R s m args below meth c H locs cells slots Q (F0 m pc ls (.long (lI v) :: .int (iI z) :: .ref (G.2.2 33) :: rest)) := astL X I (f := S.1) (k := 11) (S1 := (ua S.1 11 z v, S.2)) _ 2 (atC_kcodes_a) rfl h0 (by decide) sC_kcodes_a hdg kk
theorem atC_ages_a : (wC G S)[34]? = some (G.2.2 34, .inl (G.2.1 1, 32, .inl (fun i : Nat => iI (S.1 12 i)))) := rfl
theorem aC_ages (X : CallFix p m c cc nL s args TB own) (I : In (KC G) s H0 H locs S) {z v : Int} (hv : S.1 12 z = v) (h0 : 0 ≤ z ∧ z < 32) (hdg : decode cc pc = .ok (.iaload, 1)) (kk : W p l e R s m args below meth c H locs cells slots Q (F0 m (pc + 1) ls (.int (iI v) :: rest))) : W p l e R s m args below meth c H locs cells slots Q (F0 m pc ls (.int (iI z) :: .ref (G.2.2 34) :: rest)) := by
  subst hv
  exact aldI X I _ 1 (atC_ages_a) rfl h0 (by decide) hdg kk
theorem sC_ages_a {z v : Int} : (wC G S).set 34 (G.2.2 34, .inl (G.2.1 1, 32, .inl (fun i : Nat => iI (ua S.1 12 z v 12 i)))) = wC G (ua S.1 12 z v, S.2) := rfl
theorem qC_ages (X : CallFix p m c cc nL s args TB own) (I : In (KC G) s H0 H locs S) {z v : Int} (h0 : 0 ≤ z ∧ z < 32) (hdg : decode cc pc = .ok (.iastore, 1)) (kk : ∀ (H1 : Heap) (locs1 : List Loc), In (KC G) s H0 H1 locs1 (ua S.1 12 z v, S.2) → W p l e R s m args below meth c H1 locs1 cells slots Q (F0 m (pc + 1) ls rest)) : W p l e R s m args below meth c H locs cells slots Q (F0 m pc ls (.int (iI v) :: .int (iI z) :: .ref (G.2.2 34) :: rest)) := astI X I (f := S.1) (k := 12) (S1 := (ua S.1 12 z v, S.2)) _ 1 (atC_ages_a) rfl h0 (by decide) sC_ages_a hdg kk
theorem atC_kscores_a : (wC G S)[35]? = some (G.2.2 35, .inl (G.2.1 1, 32, .inl (fun i : Nat => iI (S.1 13 i)))) := rfl
theorem aC_kscores (X : CallFix p m c cc nL s args TB own) (I : In (KC G) s H0 H locs S) {z v : Int} (hv : S.1 13 z = v) (h0 : 0 ≤ z ∧ z < 32) (hdg : decode cc pc = .ok (.iaload, 1)) (kk : W p l e R s m args below meth c H locs cells slots Q (F0 m (pc + 1) ls (.int (iI v) :: rest))) : W p l e R s m args below meth c H locs cells slots Q (F0 m pc ls (.int (iI z) :: .ref (G.2.2 35) :: rest)) := by
  subst hv
  exact aldI X I _ 1 (atC_kscores_a) rfl h0 (by decide) hdg kk
theorem sC_kscores_a {z v : Int} : (wC G S).set 35 (G.2.2 35, .inl (G.2.1 1, 32, .inl (fun i : Nat => iI (ua S.1 13 z v 13 i)))) = wC G (ua S.1 13 z v, S.2) := rfl
theorem qC_kscores (X : CallFix p m c cc nL s args TB own) (I : In (KC G) s H0 H locs S) {z v : Int} (h0 : 0 ≤ z ∧ z < 32) (hdg : decode cc pc = .ok (.iastore, 1)) (kk : ∀ (H1 : Heap) (locs1 : List Loc), In (KC G) s H0 H1 locs1 (ua S.1 13 z v, S.2) → W p l e R s m args below meth c H1 locs1 cells slots Q (F0 m (pc + 1) ls rest)) : W p l e R s m args below meth c H locs cells slots Q (F0 m pc ls (.int (iI v) :: .int (iI z) :: .ref (G.2.2 35) :: rest)) := astI X I (f := S.1) (k := 13) (S1 := (ua S.1 13 z v, S.2)) _ 1 (atC_kscores_a) rfl h0 (by decide) sC_kscores_a hdg kk
theorem atC_acodes_a : (wC G S)[37]? = some (G.2.2 37, .inl (G.2.1 2, 6, .inr (.inl (fun i : Nat => lI (S.1 14 i))))) := rfl
theorem aC_acodes (X : CallFix p m c cc nL s args TB own) (I : In (KC G) s H0 H locs S) {z v : Int} (hv : S.1 14 z = v) (h0 : 0 ≤ z ∧ z < 6) (hdg : decode cc pc = .ok (.laload, 1)) (kk : W p l e R s m args below meth c H locs cells slots Q (F0 m (pc + 1) ls (.long (lI v) :: rest))) : W p l e R s m args below meth c H locs cells slots Q (F0 m pc ls (.int (iI z) :: .ref (G.2.2 37) :: rest)) := by
  subst hv
  exact aldL X I _ 2 (atC_acodes_a) rfl h0 (by decide) hdg kk
theorem sC_acodes_a {z v : Int} : (wC G S).set 37 (G.2.2 37, .inl (G.2.1 2, 6, .inr (.inl (fun i : Nat => lI (ua S.1 14 z v 14 i))))) = wC G (ua S.1 14 z v, S.2) := rfl
theorem qC_acodes (X : CallFix p m c cc nL s args TB own) (I : In (KC G) s H0 H locs S) {z v : Int} (h0 : 0 ≤ z ∧ z < 6) (hdg : decode cc pc = .ok (.lastore, 1)) (kk : ∀ (H1 : Heap) (locs1 : List Loc), In (KC G) s H0 H1 locs1 (ua S.1 14 z v, S.2) → W p l e R s m args below meth c H1 locs1 cells slots Q (F0 m (pc + 1) ls rest)) : W p l e R s m args below meth c H locs cells slots Q (F0 m pc ls (.long (lI v) :: .int (iI z) :: .ref (G.2.2 37) :: rest)) := astL X I (f := S.1) (k := 14) (S1 := (ua S.1 14 z v, S.2)) _ 2 (atC_acodes_a) rfl h0 (by decide) sC_acodes_a hdg kk
theorem atC_rscores_a : (wC G S)[39]? = some (G.2.2 39, .inl (G.2.1 1, 8, .inl (fun i : Nat => iI (S.1 15 i)))) := rfl
theorem aC_rscores (X : CallFix p m c cc nL s args TB own) (I : In (KC G) s H0 H locs S) {z v : Int} (hv : S.1 15 z = v) (h0 : 0 ≤ z ∧ z < 8) (hdg : decode cc pc = .ok (.iaload, 1)) (kk : W p l e R s m args below meth c H locs cells slots Q (F0 m (pc + 1) ls (.int (iI v) :: rest))) : W p l e R s m args below meth c H locs cells slots Q (F0 m pc ls (.int (iI z) :: .ref (G.2.2 39) :: rest)) := by
  subst hv
  exact aldI X I _ 1 (atC_rscores_a) rfl h0 (by decide) hdg kk
theorem sC_rscores_a {z v : Int} : (wC G S).set 39 (G.2.2 39, .inl (G.2.1 1, 8, .inl (fun i : Nat => iI (ua S.1 15 z v 15 i)))) = wC G (ua S.1 15 z v, S.2) := rfl
theorem qC_rscores (X : CallFix p m c cc nL s args TB own) (I : In (KC G) s H0 H locs S) {z v : Int} (h0 : 0 ≤ z ∧ z < 8) (hdg : decode cc pc = .ok (.iastore, 1)) (kk : ∀ (H1 : Heap) (locs1 : List Loc), In (KC G) s H0 H1 locs1 (ua S.1 15 z v, S.2) → W p l e R s m args below meth c H1 locs1 cells slots Q (F0 m (pc + 1) ls rest)) : W p l e R s m args below meth c H locs cells slots Q (F0 m pc ls (.int (iI v) :: .int (iI z) :: .ref (G.2.2 39) :: rest)) := astI X I (f := S.1) (k := 15) (S1 := (ua S.1 15 z v, S.2)) _ 1 (atC_rscores_a) rfl h0 (by decide) sC_rscores_a hdg kk
theorem atC_numbers_a : (wC G S)[40]? = some (G.2.2 40, .inl (G.2.1 1, 8, .inl (fun i : Nat => iI (S.1 29 i)))) := rfl
theorem aC_numbers (X : CallFix p m c cc nL s args TB own) (I : In (KC G) s H0 H locs S) {z v : Int} (hv : S.1 29 z = v) (h0 : 0 ≤ z ∧ z < 8) (hdg : decode cc pc = .ok (.iaload, 1)) (kk : W p l e R s m args below meth c H locs cells slots Q (F0 m (pc + 1) ls (.int (iI v) :: rest))) : W p l e R s m args below meth c H locs cells slots Q (F0 m pc ls (.int (iI z) :: .ref (G.2.2 40) :: rest)) := by
  subst hv
  exact aldI X I _ 1 (atC_numbers_a) rfl h0 (by decide) hdg kk
theorem sC_numbers_a {z v : Int} : (wC G S).set 40 (G.2.2 40, .inl (G.2.1 1, 8, .inl (fun i : Nat => iI (ua S.1 29 z v 29 i)))) = wC G (ua S.1 29 z v, S.2) := rfl
theorem qC_numbers (X : CallFix p m c cc nL s args TB own) (I : In (KC G) s H0 H locs S) {z v : Int} (h0 : 0 ≤ z ∧ z < 8) (hdg : decode cc pc = .ok (.iastore, 1)) (kk : ∀ (H1 : Heap) (locs1 : List Loc), In (KC G) s H0 H1 locs1 (ua S.1 29 z v, S.2) → W p l e R s m args below meth c H1 locs1 cells slots Q (F0 m (pc + 1) ls rest)) : W p l e R s m args below meth c H locs cells slots Q (F0 m pc ls (.int (iI v) :: .int (iI z) :: .ref (G.2.2 40) :: rest)) := astI X I (f := S.1) (k := 29) (S1 := (ua S.1 29 z v, S.2)) _ 1 (atC_numbers_a) rfl h0 (by decide) sC_numbers_a hdg kk
theorem atC_signs_a {j : Nat} (hj : j < 8) : (wC G S)[(42 + 2 * j)]? = some (G.2.2 (42 + 2 * j), .inl (G.2.1 0, 12, .inl (fun i : Nat => iI (S.1 (20 + j) i)))) := by
  match j, hj with
  | 0, _ => rfl
  | 1, _ => rfl
  | 2, _ => rfl
  | 3, _ => rfl
  | 4, _ => rfl
  | 5, _ => rfl
  | 6, _ => rfl
  | 7, _ => rfl
theorem aC_signs (X : CallFix p m c cc nL s args TB own) (I : In (KC G) s H0 H locs S) {j : Nat} (hj : j < 8) {z v : Int} (hv : S.1 (20 + j) z = v) (h0 : 0 ≤ z ∧ z < 12) (hdg : decode cc pc = .ok (.caload, 1)) (kk : W p l e R s m args below meth c H locs cells slots Q (F0 m (pc + 1) ls (.int (iI v) :: rest))) : W p l e R s m args below meth c H locs cells slots Q (F0 m pc ls (.int (iI z) :: .ref (G.2.2 (42 + 2 * j)) :: rest)) := by
  subst hv
  exact aldC X I _ 0 (atC_signs_a hj) rfl h0 (by decide) hdg kk
theorem sC_signs_a {z v : Int} {j : Nat} (hj : j < 8) : (wC G S).set (42 + 2 * j) (G.2.2 (42 + 2 * j), .inl (G.2.1 0, 12, .inl (fun i : Nat => iI (ua S.1 (20 + j) z v (20 + j) i)))) = wC G (ua S.1 (20 + j) z v, S.2) := by
  match j, hj with
  | 0, _ => rfl
  | 1, _ => rfl
  | 2, _ => rfl
  | 3, _ => rfl
  | 4, _ => rfl
  | 5, _ => rfl
  | 6, _ => rfl
  | 7, _ => rfl
theorem qC_signs (X : CallFix p m c cc nL s args TB own) (I : In (KC G) s H0 H locs S) {j : Nat} (hj : j < 8) {z v : Int} (h0 : 0 ≤ z ∧ z < 12) (hc : 0 ≤ v ∧ v < 65536) (hdg : decode cc pc = .ok (.castore, 1)) (kk : ∀ (H1 : Heap) (locs1 : List Loc), In (KC G) s H0 H1 locs1 (ua S.1 (20 + j) z v, S.2) → W p l e R s m args below meth c H1 locs1 cells slots Q (F0 m (pc + 1) ls rest)) : W p l e R s m args below meth c H locs cells slots Q (F0 m pc ls (.int (iI v) :: .int (iI z) :: .ref (G.2.2 (42 + 2 * j)) :: rest)) := astC X I (f := S.1) (k := (20 + j)) (S1 := (ua S.1 (20 + j) z v, S.2)) _ 0 (atC_signs_a hj) rfl h0 (by decide) hc (sC_signs_a hj) hdg kk
end SDC
