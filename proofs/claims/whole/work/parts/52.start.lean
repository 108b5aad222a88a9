section BG
variable {p : Program} {l : Launch} {e : Env} {R : Room} {s : State} {m : MethodId} {args : Array Value} {below : List Frame} {meth : Method} {c : Code} {H : Heap} {locs : List Loc} {cells slots : Nat} {Q : State → Prop}
variable {pc : Nat} {ls : Array Slot} {rest : List Value} {D : va_G} {cI : Nat → ClassId} {A : Nat → Prop} {H0 : Heap} {wr : va_W} {q : Nat} {e0 : va_E} {st0 : List Value} {aa : Array Value} {mc ms : Nat}
theorem b_backG {T : Type} {post : T → Prop} {Wd : T → va_W} (B : Bd D cI A s H0 H locs (wr ++ [(q, e0)])) (hr : va_Run p l e R s m args below meth c H locs cells slots mc ms (F0 m pc ls st0) rest (va_Qv post (fun u t => va_P D vwCl (Wd u) t.heap ∧ va_D (va_A [(q, e0)] H.size) (Wd u)) (va_A [(q, e0)] H.size) aa) (va_A [(q, e0)] H.size))
    (kk : ∀ (u : T) (H1 : Heap) (locs1 : List Loc), post u → Bd D cI A s H0 H1 locs1 (wr ++ Wd u) → W p l e R s m args below meth c H1 locs1 (cells + mc) (slots + ms) Q (F0 m (pc + 3) ls rest)) : W p l e R s m args below meth c H locs cells slots Q (F0 m pc ls st0) := by
  refine va_callv hr B.2.2.2.1 (fun x _ h => B.free x h) B.free (fun u t H1 locs1 ht hvm hw hB hz hk hS => ?_)
  obtain ⟨hP1, hD1⟩ := hB
  rw [ht] at hP1
  have apart : ∀ (k : Nat) (x : Nat × va_E), wr[k]? = some x → (wr ++ [(q, e0)])[k]? = some x ∧ x.1 < H.size ∧ ¬ va_A [(q, e0)] H.size x.1 := fun k x hx => by
    have hlt := (List.getElem?_eq_some_iff.mp hx).1
    have h2 : (wr ++ [(q, e0)])[k]? = some x := va_getL hx
    have h3 := (B.2.1 k x h2).lt
    refine ⟨h2, h3, fun h => ?_⟩
    rcases h with ⟨k2, e2, h⟩ | h
    · exact va_D.two B.2.2.1 hx h rfl
    · omega
  refine kk u H1 locs1 hw ⟨B.1, va_P.app (fun k x hx => ?_) hP1, va_D.app B.2.2.1.left (hD1.weaken (fun k x _ h => B.free x.1 h)) (fun i j x z hx hz hxz => ?_), hS, B.2.2.2.2⟩
  · obtain ⟨h1, h2, h3⟩ := apart k x hx
    exact (B.2.1 k x h1).kept (hk x.1 h2 h3)
  · exact (apart i x hx).2.2 (by rw [hxz]; exact hD1.2 j z hz)
end BG
theorem wC_at {G : Ge} {S : St} {i : Nat} (hi : i < 57) : ∃ x, (wC G S)[i]? = some x ∧ x.1 = G.2.2 i := by
  have hm : (wC G S).map Prod.fst = (List.range 57).map G.2.2 := rfl
  have h1 : ((wC G S).map Prod.fst)[i]? = some (G.2.2 i) := by rw [hm, List.getElem?_map, List.getElem?_range hi]; rfl
  rw [List.getElem?_map] at h1
  exact Option.map_eq_some_iff.mp h1
theorem wM_at {G : Ge} {S : St} {i : Nat} (hi : i < 28) : ∃ x, (wM G S)[i]? = some x ∧ x.1 = G.2.2 i := by
  have hm : (wM G S).map Prod.fst = (List.range 28).map G.2.2 := rfl
  have h1 : ((wM G S).map Prod.fst)[i]? = some (G.2.2 i) := by rw [hm, List.getElem?_map, List.getElem?_range hi]; rfl
  rw [List.getElem?_map] at h1
  exact Option.map_eq_some_iff.mp h1
set_option maxRecDepth 100000 in
theorem tx_at : ∀ j : Nat, j < 78 → (Cond.eq (.elem (.field (.string "NameSeeker" 85) "java/lang/String" "value" "[B") (.int (Int32.ofNat j))) (.int ((txL.map iI).getD j 0))) ∈ flatC (Jvm.Cond.and given_1 narrow_1) := by decide +kernel
theorem tx_fn : (fun j : Nat => Value.int ((txL.map iI).getD j 0)) = fun j : Nat => Value.int (iI (tx j)) := funext (fun j => by
  unfold tx
  rw [Int.toNat_natCast, List.getD_eq_getElem?_getD, List.getElem?_map, List.getD_eq_getElem?_getD]
  cases txL[j]? <;> rfl)
set_option maxRecDepth 100000 in
set_option maxHeartbeats 4000000 in
theorem law_env {p : Program} {s : State} {m : MethodId} {meth : Method} {c : Code} {b L : Nat} {xs : Nat → Int32} (C0 : lw_At p s m meth c b L xs) : ∃ (D : va_G) (cI : Nat → ClassId) (kS vS : Nat), Ev D cI s ∧ SA (aS s) kS vS s s.heap ∧ vk_R "NameSeeker" 85 "s0,openFile;s0,open_file;s1,OpenFolio;s2,lastOpened;s3,find_Of;s0,poof;w4,3,1;" kS s := by
  obtain ⟨hx, hb, hr, hml, hown, hts, hX, hbl, hlocks, hgv⟩ := C0
  have hT : ∀ w ∈ TB, w.before #[Value.ref b] s = true := fun w h => hts w (List.mem_filter.mp h).1
  have hs := flat_of_before _ hgv
  have hA : ∀ a : Nat, a < s.heap.size → ¬ aS s a := fun a h => Nat.not_le.mpr h
  have h : ∀ k : Nat, ∃ x : ClassId × (Nat → Nat), ∀ q : vw_C, vwCl[k]? = some q → u_Kn s q.1 q.2.1 q.2.2 x.1 x.2 := by
    intro k
    rcases (show k = 0 ∨ k = 1 ∨ k = 2 ∨ k = 3 ∨ k = 4 ∨ k = 5 ∨ k = 6 ∨ k = 7 ∨ k = 8 ∨ k = 9 ∨ k = 10 ∨ 11 ≤ k by omega) with rfl | rfl | rfl | rfl | rfl | rfl | rfl | rfl | rfl | rfl | rfl | hk
    · obtain ⟨c0, i0, h0⟩ := u_known (C := RX0) (T := TX0) (N := 2) (n := 2) hT inlX0 (hT _ tb_225)
      exact ⟨(c0, i0), fun q hq => by cases hq; exact h0⟩
    · obtain ⟨c0, i0, h0⟩ := u_known (C := RX1) (T := TX1) (N := 6) (n := 6) hT inlX1 (hT _ tb_196)
      exact ⟨(c0, i0), fun q hq => by cases hq; exact h0⟩
    · obtain ⟨c0, i0, h0⟩ := u_known (C := RX2) (T := TX2) (N := 4) (n := 4) hT inlX2 (hT _ tb_174)
      exact ⟨(c0, i0), fun q hq => by cases hq; exact h0⟩
    · obtain ⟨c0, i0, h0⟩ := u_known (C := RX3) (T := TX3) (N := 3) (n := 3) hT inlX3 (hT _ tb_75)
      exact ⟨(c0, i0), fun q hq => by cases hq; exact h0⟩
    · obtain ⟨c0, i0, h0⟩ := u_known (C := RX4) (T := TX4) (N := 7) (n := 7) hT inlX4 (hT _ tb_82)
      exact ⟨(c0, i0), fun q hq => by cases hq; exact h0⟩
    · obtain ⟨c0, i0, h0⟩ := u_known (C := RX5) (T := TX5) (N := 3) (n := 3) hT inlX5 (hT _ tb_240)
      exact ⟨(c0, i0), fun q hq => by cases hq; exact h0⟩
    · obtain ⟨c0, i0, h0⟩ := u_known (C := RX6) (T := TX6) (N := 3) (n := 3) hT inlX6 (hT _ tb_137)
      exact ⟨(c0, i0), fun q hq => by cases hq; exact h0⟩
    · obtain ⟨c0, i0, h0⟩ := u_known (C := RX7) (T := TX7) (N := 2) (n := 2) hT inlX7 (hT _ tb_60)
      exact ⟨(c0, i0), fun q hq => by cases hq; exact h0⟩
    · obtain ⟨c0, i0, h0⟩ := u_known (C := RX8) (T := TX8) (N := 2) (n := 2) hT inlX8 (hT _ tb_156)
      exact ⟨(c0, i0), fun q hq => by cases hq; exact h0⟩
    · obtain ⟨c0, i0, h0⟩ := u_known (C := RX9) (T := TX9) (N := 14) (n := 14) hT inlX9 (hT _ tb_52)
      exact ⟨(c0, i0), fun q hq => by cases hq; exact h0⟩
    · obtain ⟨c0, i0, h0⟩ := u_known (C := RX10) (T := TX10) (N := 41) (n := 41) hT inlX10 (hT _ tb_689)
      exact ⟨(c0, i0), fun q hq => by cases hq; exact h0⟩
    · exact ⟨(0, fun _ => 0), fun q hq => by rw [List.getElem?_eq_none (show vwCl.length ≤ k from hk)] at hq; cases hq⟩
  obtain ⟨f, hf⟩ := Classical.axiomOfChoice h
  obtain ⟨c0, k0, p0, a1, a2, a3⟩ := Cond.arrayClass_spec (hT _ tb_73)
  obtain ⟨c1, k1, p1, b1, b2, b3⟩ := Cond.arrayClass_spec (hT _ tb_194)
  obtain ⟨c2, k2, p2, d1, d2, d3⟩ := Cond.arrayClass_spec (hT _ tb_223)
  have w3 : (Cond.arrayOver (.object "NameSeeker$Name")).before #[Value.ref b] s = true := hts _ (List.mem_of_getElem? (i := 81) rfl)
  have w4 : (Cond.arrayOver (.object "NameSeeker$Word")).before #[Value.ref b] s = true := hts _ (List.mem_of_getElem? (i := 172) rfl)
  have w5 : (Cond.arrayOver (.array .int)).before #[Value.ref b] s = true := hts _ (List.mem_of_getElem? (i := 180) rfl)
  obtain ⟨p3, c3, k3, e1, -, e3, e4, e5⟩ := Cond.arrayOver_spec w3
  obtain ⟨p4, c4, k4, f1, -, f3, f4, f5⟩ := Cond.arrayOver_spec w4
  obtain ⟨p5, c5, k5, -, -, g3, g4, g5⟩ := Jvm.Stand.arrayOver_specB w5
  have hN : Nst s := by
    intro q hq
    obtain ⟨i, hi⟩ := List.getElem?_of_mem hq
    have hi15 : i < 15 := (List.getElem?_eq_some_iff.mp hi).1
    rcases (show i = 0 ∨ i = 1 ∨ i = 2 ∨ i = 3 ∨ i = 4 ∨ i = 5 ∨ i = 6 ∨ i = 7 ∨ i = 8 ∨ i = 9 ∨ i = 10 ∨ i = 11 ∨ i = 12 ∨ i = 13 ∨ i = 14 by omega) with rfl | rfl | rfl | rfl | rfl | rfl | rfl | rfl | rfl | rfl | rfl | rfl | rfl | rfl | rfl
    · cases hi; exact va_Nw.of rfl (hts _ (List.mem_of_getElem? (i := 369) rfl))
    · cases hi; exact va_Nw.of rfl (hts _ (List.mem_of_getElem? (i := 370) rfl))
    · cases hi; exact va_Nw.of rfl (hts _ (List.mem_of_getElem? (i := 371) rfl))
    · cases hi; exact va_Nw.of rfl (hts _ (List.mem_of_getElem? (i := 372) rfl))
    · cases hi; exact va_Nw.of rfl (hts _ (List.mem_of_getElem? (i := 388) rfl))
    · cases hi; exact va_Nw.of rfl (hts _ (List.mem_of_getElem? (i := 550) rfl))
    · cases hi; exact va_Nw.of rfl (hts _ (List.mem_of_getElem? (i := 552) rfl))
    · cases hi; exact va_Nw.of rfl (hts _ (List.mem_of_getElem? (i := 83) rfl))
    · cases hi; exact va_Nw.of rfl (hts _ (List.mem_of_getElem? (i := 61) rfl))
    · cases hi; exact va_Nw.of rfl (hts _ (List.mem_of_getElem? (i := 138) rfl))
    · cases hi; exact va_Nw.of rfl (hts _ (List.mem_of_getElem? (i := 157) rfl))
    · cases hi; exact va_Nw.of rfl (hts _ (List.mem_of_getElem? (i := 175) rfl))
    · cases hi; exact va_Nw.of rfl (hts _ (List.mem_of_getElem? (i := 197) rfl))
    · cases hi; exact va_Nw.of rfl (hts _ (List.mem_of_getElem? (i := 226) rfl))
    · cases hi; exact va_Nw.of rfl (hts _ (List.mem_of_getElem? (i := 241) rfl))
  obtain ⟨adK, adV, hSt, hEv⟩ := vk_Sof (args := #[Value.ref b]) (s := s) (N := 1) (tm := fun _ => .string "NameSeeker" 85) (len := [78]) (byt := [txL.map iI]) (A := aS s) (fun i hi => by have h0 : i = 0 := Nat.lt_one_iff.mp hi; subst h0; exact (by decide : (78 : Nat) < 2 ^ 31)) (fun i hi => hs _ (by decide +kernel)) (fun i hi => hs _ (by decide +kernel)) (fun i hi => hs _ (by decide +kernel)) (fun i hi => by
    obtain rfl : i = 0 := by omega
    exact hs _ (by decide +kernel)) (fun i hi j hj => by
    obtain rfl : i = 0 := by omega
    exact hs _ (tx_at j hj)) (fun i j hi hj hij => absurd (by omega) hij) hA
  obtain ⟨o1, o2, o3, o4⟩ := hSt.1 0 (by omega)
  have o5 : va_T .byte (adV 0) 78 (fun j => .int ((txL.map iI).getD j 0)) (aS s) s s.heap := o4
  rw [tx_fn] at o5
  have hz : va_Z "java/lang/String" "COMPACT_STRINGS" "Z" (.int (iI 1)) (aS s) s s.heap := va_Zof (args := #[Value.ref b]) (hts _ (List.mem_of_getElem? (i := 268) rfl)) (hts _ (List.mem_of_getElem? (i := 44) rfl)) (va_eqt (z := 1) (hs _ (by decide +kernel))) hA
  have hzq : va_Zq "jdk/internal/util/Preconditions" "SIOOBE_FORMATTER" "Ljava/util/function/BiFunction;" (aS s) s s.heap := va_Zqof (args := #[Value.ref b]) (hts _ (List.mem_of_getElem? (i := 284) rfl)) (hts _ (List.mem_of_getElem? (i := 46) rfl)) (hs _ (by decide +kernel)) hA
  refine ⟨(fun k => (f k).1, fun k => (f k).2), fun i => [c0, c1, c2, c3, c4, c5].getD i 0, adK 0, adV 0, ⟨⟨fun k q hq => hf k q hq, fun k q hq => ?_⟩, hN, va_AO.of w3, va_AO.of w4, w5⟩, ⟨o1, o2, o3, o5, hz, hzq⟩, vk_R.of (A := #[Value.ref b]) (hts _ (List.mem_of_getElem? (i := 258) rfl)) (hEv 0 (by omega))⟩
  rcases (show k = 0 ∨ k = 1 ∨ k = 2 ∨ k = 3 ∨ k = 4 ∨ k = 5 ∨ 6 ≤ k by omega) with rfl | rfl | rfl | rfl | rfl | rfl | hk
  · cases hq; exact ⟨fun n z => ⟨fun q h => (by cases h), k0, a2, p0, a3⟩, a1⟩
  · cases hq; exact ⟨fun n z => ⟨fun q h => (by cases h), k1, b2, p1, b3⟩, b1⟩
  · cases hq; exact ⟨fun n z => ⟨fun q h => (by cases h), k2, d2, p2, d3⟩, d1⟩
  · cases hq; exact ⟨fun n z => ⟨fun q h => (by cases h), k3, e3, p3, e4⟩, ⟨k3, p3, e3, e4, e1, e5⟩⟩
  · cases hq; exact ⟨fun n z => ⟨fun q h => (by cases h), k4, f3, p4, f4⟩, ⟨k4, p4, f3, f4, f1, f5⟩⟩
  · cases hq; exact ⟨fun n z => ⟨fun q h => (by cases h), k5, g3, p5, g4⟩, g5⟩
  · rw [List.getElem?_eq_none (show (tyD _).length ≤ k from hk)] at hq; cases hq
set_option maxRecDepth 100000 in
set_option maxHeartbeats 4000000 in
theorem whole_start {p : Program} {e : Env} {s : State} {m : MethodId} {below : List Frame} {meth : Method} {c : Code} (l : Launch) (hflags : l.flags = flags0) {b L : Nat} {xs : Nat → Int32} (hL : L ≤ 2048) (C0 : lw_At p s m meth c b L xs) : W p l e room_1 s m #[Value.ref b] below meth c s.heap [] 0 0 (lw_Z below #[Value.ref b] s) (entryFrame m ([Value.ref b] : List Value).toArray 4) := by
  obtain ⟨hx, hb, hr, hml, hown, hts, hX, hbl, hlocks, hgv⟩ := id C0
  obtain ⟨D, cI, kS, vS, hE, hSA, hR⟩ := law_env C0
  have X : CallFix p m c cL_law 4 s #[Value.ref b] TB "NameSeekerLaw" := ⟨hx, hb, hml, hown, fun w h => hts w (List.mem_filter.mp h).1⟩
  rw [lg_entry_eq]
  have hl := lv_entry ([Value.ref b]) (n := 4) (Nat.le_of_ble_eq_true rfl)
  generalize (lg_sl ([Value.ref b]) ++ List.replicate (4 - (lg_sl ([Value.ref b])).length) Slot.unset).toArray = ls at hl ⊢
  have hl : lv_has ls 4 [(0, .ref b)] := hl
  have B : Bd D cI (aS s) s s.heap s.heap [] [] := ⟨hE, fun k q h => by simp at h, ⟨fun i j p q h => by simp at h, fun k q h => by simp at h⟩, va_S.rf, fun q h => h⟩
  refine b_new X B (C := RX9) (T := TX9) (N := 14) 9 [.null, .null, .null, .null, .null, .null, .null, .null, .null, .null, .int (iI 0), .int (iI 0), .int (iI 0), .int (iI 0)] rfl inlX9 tyX9 tyX9_ok tb_51 tb_52 tb_34 dfX9 (Nat.le_of_ble_eq_true rfl) (Nat.le_of_ble_eq_true rfl) dL_law_0 (fun q H B => ?_)
  have B : Bd D cI (aS s) s s.heap H [] ([] ++ [(q, e9)]) := B
  refine lv_dup X.1 X.2.1 dL_law_3 rfl ?_
  have hSA1 : SA (va_A [(q, e9)] H.size) kS vS s H := (hSA.kept (fun a h1 h2 => B.2.2.2.1.2.1 a h1 h2)).narrow B.free
  refine b_backG (post := fun u : (Nat → Nat) × St => u.1 0 = q ∧ JC0 u.2) (Wd := fun u : (Nat → Nat) × St => wC (D, cI, u.1) u.2) B (va_runI (As := []) (rest := [.ref q]) X (k_X9_init l D cI q H.size kS vS) (cwI 0 X.2.2.2.2 (gdC tb_55 gdB) rfl rfl rfl (X.2.2.2.2 _ tb_34) (X.2.2.2.2 _ tb_53) (X.2.2.2.2 _ tb_54) rfl ok_X9_init ⟨Nat.le_of_ble_eq_true rfl, Nat.le_of_ble_eq_true rfl⟩) ⟨fun a U g mk z => ⟨z.1, z.2.1, z.2.2.1.calls, z.2.2.2.1, SA.moved (u := U) (U := U.calling g mk a) (Vm.Alike.refl U.vm) z.2.2.2.2.1, vk_R.same (u := U) (U := U.calling g mk a) rfl z.2.2.2.2.2⟩, fun U hU hW => ⟨rfl, by rw [hU], B.1.warm hW, by rw [hU]; exact B.last, by rw [hU]; exact SA.moved hW.alike hSA1, vk_R.warm hW hR⟩⟩ rfl rfl hl.1 rfl (lv_room (Nat.le_of_ble_eq_true rfl)) dL_law_4 ⟨Nat.le_of_ble_eq_true rfl, Nat.le_of_ble_eq_true rfl⟩) (fun u H locs hu B => ?_)
  obtain ⟨hq, hJC⟩ := hu
  refine lv_astore_n (lv' := [(1, .ref q), (0, .ref b)]) X.1 X.2.1 dL_law_7 rfl hl (by decide) rfl (fun ls hl => ?_)
  refine b_new X B (C := RX10) (T := TX10) (N := 41) 10 [.int (iI 0), .null, .int (iI 0), .null, .null, .null, .null, .null, .null, .int (iI 0), .null, .null, .null, .null, .int (iI 0), .null, .int (iI 0), .null, .null, .int (iI 0), .int (iI 0), .int (iI 0), .int (iI 0), .int (iI 0), .int (iI 0), .int (iI 0), .null, .null, .null, .null, .null, .int (iI 0), .null, .null, .null, .int (iI 0), .null, .null, .null, .null, .null] rfl inlX10 tyX10 tyX10_ok tb_688 tb_689 tb_48 dfX10 (Nat.le_of_ble_eq_true rfl) (Nat.le_of_ble_eq_true rfl) dL_law_8 (fun q2 H B => ?_)
  refine lv_dup X.1 X.2.1 dL_law_11 rfl ?_
  refine b_backG (e0 := e10) (post := fun u : (Nat → Nat) × St => u.1 0 = q2 ∧ JM0 u.2.1) (Wd := fun u : (Nat → Nat) × St => wM (D, cI, u.1) u.2) B (va_runI (As := []) (rest := [.ref q2]) X (k_X10_init l D cI q2 H.size) (cwI 0 X.2.2.2.2 (gdC tb_692 gdB) rfl rfl rfl (X.2.2.2.2 _ tb_48) (X.2.2.2.2 _ tb_690) (X.2.2.2.2 _ tb_691) rfl ok_X10_init ⟨Nat.le_of_ble_eq_true rfl, Nat.le_of_ble_eq_true rfl⟩) (Bd.pre (e0 := e10) B) rfl rfl hl.1 rfl (lv_room (Nat.le_of_ble_eq_true rfl)) dL_law_12 ⟨Nat.le_of_ble_eq_true rfl, Nat.le_of_ble_eq_true rfl⟩) (fun v H locs hv B => ?_)
  obtain ⟨hq2, hJM⟩ := hv
  refine lv_astore_n (lv' := [(2, .ref q2), (1, .ref q), (0, .ref b)]) X.1 X.2.1 dL_law_15 rfl hl (by decide) rfl (fun ls hl => ?_)
  refine ri_const X (v := 0) dL_law_16 ?_
  refine lv_istore_n (lv' := [(3, .int (iI 0)), (2, .ref q2), (1, .ref q), (0, .ref b)]) X.1 X.2.1 dL_law_17 rfl hl (by decide) rfl (fun ls hl => ?_)
  refine W.widen (k := 85) (n := 1470) (Nat.le_of_ble_eq_true rfl) (Nat.le_of_ble_eq_true rfl) ?_
  have B2 : Bd D cI (aS s) s s.heap H locs (wC (D, cI, u.1) u.2 ++ wM (D, cI, v.1) v.2) := B
  have J : LJ (D, cI, u.1) (D, cI, v.1) s H locs u.2 v.2 := ⟨⟨hE.1, hE.1, hE.2.1⟩, ⟨va_P.left B2.2.1, frC_in (va_D.left B2.2.2.1)⟩, ⟨va_P.right B2.2.1, frM_in (va_D.right B2.2.2.1)⟩, ⟨fun x h1 h2 => by
    obtain ⟨i, hi, e1⟩ := h1
    obtain ⟨j, hj, e2⟩ := h2
    obtain ⟨y, y1, y2⟩ := wC_at (G := (D, cI, u.1)) (S := u.2) hi
    obtain ⟨z, z1, z2⟩ := wM_at (G := (D, cI, v.1)) (S := v.2) hj
    exact va_D.two B2.2.2.1 y1 z1 (by rw [y2, z2, ← e1, ← e2]), fun x h => frC_of (va_D.left B2.2.2.1) x h, fun x h => frM_of (va_D.right B2.2.2.1) x h⟩, B2.2.2.2.1⟩
  subst hq
  subst hq2
  have hl : lv_has ls 4 [(3, .int (iI (4 * ((0 : Nat) : Int)))), (2, .ref (v.1 0)), (1, .ref (u.1 0)), (0, .ref b)] := hl
  exact law_loop (G := (D, cI, u.1)) (M := (D, cI, v.1)) X hr hlocks hX hbl hL 601 0 u.2 v.2 (by omega) (by omega) (JJ_0 hJC hJM) H locs J ls (lv_sub hl [3, 2, 1, 0] rfl)
