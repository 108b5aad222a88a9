section BG
variable {p : Program} {l : Launch} {e : Env} {R : Room} {s : State} {m : MethodId} {args : Array Value} {below : List Frame} {meth : Method} {c : Code} {H : Heap} {locs : List Loc} {cells slots : Nat} {Q : State → Prop}
variable {pc : Nat} {ls : Array Slot} {rest : List Value} {D : va_G} {cI : Nat → ClassId} {A : Nat → Prop} {H0 : Heap} {wr : va_W} {q : Nat} {e0 : va_E} {st0 : List Value} {aa : Array Value} {mc ms : Nat}
theorem b_backG {T : Type} {post : T → Prop} {Wd : T → va_W} (B : Bd D cI A s H0 H locs (wr ++ [(q, e0)])) (hr : va_Run p l e R s m args below meth c H locs cells slots mc ms (F0 m pc ls st0) rest (va_Qv post (fun u t => va_P D vwCl (Wd u) t.heap ∧ va_D (va_A [(q, e0)] H.size) (Wd u)) (va_A [(q, e0)] H.size) aa) (va_A [(q, e0)] H.size))
    (kk : ∀ (u : T) (H1 : Heap) (locs1 : List Loc), post u → Bd D cI A s H0 H1 locs1 (wr ++ Wd u) → W p l e R s m args below meth c H1 locs1 (cells + mc) (slots + ms) Q (F0 m (pc + 3) ls rest)) : W p l e R s m args below meth c H locs cells slots Q (F0 m pc ls st0) := by
  refine va_callv hr B.2.2.2.1 (fun x _ h => B.free x h) B.free (fun u t H1 locs1 ht hvm hw hB hz hk hS => ?_)
  obtain ⟨hP1, hD1⟩ := hB
  rw [ht] at hP1
  have apart : ∀ (k : Nat) (x : Nat × va_E), wr[k]? = some x → (wr ++ [(q, e0)])[k]? = some x ∧ x.1 < H.size ∧ ¬ va_A [(q, e0)] H.size x.1 := fun k x hx => by
    have hlt := (List.getElem?_eq_some_iff.mp hx).1
    have h2 : (wr ++ [(q, e0)])[k]? = some x := va_getL hx
    have h3 := (B.2.1 k x h2).lt
    refine ⟨h2, h3, fun h => ?_⟩
    rcases h with ⟨k2, e2, h⟩ | h
    · exact va_D.two B.2.2.1 hx h rfl
    · omega
  refine kk u H1 locs1 hw ⟨B.1, va_P.app (fun k x hx => ?_) hP1, va_D.app B.2.2.1.left (hD1.weaken (fun k x _ h => B.free x.1 h)) (fun i j x z hx hz hxz => ?_), hS, B.2.2.2.2⟩
  · obtain ⟨h1, h2, h3⟩ := apart k x hx
    exact (B.2.1 k x h1).kept (hk x.1 h2 h3)
  · exact (apart i x hx).2.2 (by rw [hxz]; exact hD1.2 j z hz)
end BG
theorem wC_at {G : Ge} {S : St} {i : Nat} (hi : i < 57) : ∃ x, (wC G S)[i]? = some x ∧ x.1 = G.2.2 i := by
  have hm : (wC G S).map Prod.fst = (List.range 57).map G.2.2 := rfl
  have h1 : ((wC G S).map Prod.fst)[i]? = some (G.2.2 i) := by rw [hm, List.getElem?_map, List.getElem?_range hi]; rfl
  rw [List.getElem?_map] at h1
  exact Option.map_eq_some_iff.mp h1
set_option maxRecDepth 100000 in
theorem tx_at : ∀ j : Nat, j < 78 → (Cond.eq (.elem (.field (.string "NameSeeker" 85) "java/lang/String" "value" "[B") (.int (Int32.ofNat j))) (.int ((txL.map iI).getD j 0))) ∈ flatC (Jvm.Cond.and given_1 narrow_1) := by decide +kernel
theorem tx_fn : (fun j : Nat => Value.int ((txL.map iI).getD j 0)) = fun j : Nat => Value.int (iI (tx j)) := funext (fun j => by
  unfold tx
  rw [Int.toNat_natCast, List.getD_eq_getElem?_getD, List.getElem?_map, List.getD_eq_getElem?_getD]
  cases txL[j]? <;> rfl)
set_option maxRecDepth 100000 in
set_option maxHeartbeats 4000000 in
theorem law_env {p : Program} {s : State} {m : MethodId} {meth : Method} {c : Code} {b L : Nat} {xs : Nat → Int32} (C0 : lw_At p s m meth c b L xs) : ∃ (D : va_G) (cI : Nat → ClassId) (kS vS : Nat), Ev D cI s ∧ SA (aS s) kS vS s s.heap ∧ vk_R "NameSeeker" 85 "s0,openFile;s0,open_file;s1,OpenFolio;s2,lastOpened;s3,find_Of;s0,poof;w4,3,1;" kS s := by
  obtain ⟨hx, hb, hr, hml, hown, hts, hX, hbl, hlocks, hgv⟩ := C0
  have hT : ∀ w ∈ TB, w.before #[Value.ref b] s = true := fun w h => hts w (List.mem_filter.mp h).1
  have hs := flat_of_before _ hgv
  have hA : ∀ a : Nat, a < s.heap.size → ¬ aS s a := fun a h => Nat.not_le.mpr h
  have h : ∀ k : Nat, ∃ x : ClassId × (Nat → Nat), ∀ q : vw_C, vwCl[k]? = some q → u_Kn s q.1 q.2.1 q.2.2 x.1 x.2 := by
    intro k
    rcases (show k = 0 ∨ k = 1 ∨ k = 2 ∨ k = 3 ∨ k = 4 ∨ k = 5 ∨ k = 6 ∨ k = 7 ∨ k = 8 ∨ k = 9 ∨ 10 ≤ k by omega) with rfl | rfl | rfl | rfl | rfl | rfl | rfl | rfl | rfl | rfl | hk
    · obtain ⟨c0, i0, h0⟩ := u_known (C := RX0) (T := TX0) (N := 2) (n := 2) hT inlX0 (hT _ tb_201)
      exact ⟨(c0, i0), fun q hq => by cases hq; exact h0⟩
    · obtain ⟨c0, i0, h0⟩ := u_known (C := RX1) (T := TX1) (N := 6) (n := 6) hT inlX1 (hT _ tb_172)
      exact ⟨(c0, i0), fun q hq => by cases hq; exact h0⟩
    · obtain ⟨c0, i0, h0⟩ := u_known (C := RX2) (T := TX2) (N := 4) (n := 4) hT inlX2 (hT _ tb_150)
      exact ⟨(c0, i0), fun q hq => by cases hq; exact h0⟩
    · obtain ⟨c0, i0, h0⟩ := u_known (C := RX3) (T := TX3) (N := 3) (n := 3) hT inlX3 (hT _ tb_53)
      exact ⟨(c0, i0), fun q hq => by cases hq; exact h0⟩
    · obtain ⟨c0, i0, h0⟩ := u_known (C := RX4) (T := TX4) (N := 7) (n := 7) hT inlX4 (hT _ tb_60)
      exact ⟨(c0, i0), fun q hq => by cases hq; exact h0⟩
    · obtain ⟨c0, i0, h0⟩ := u_known (C := RX5) (T := TX5) (N := 3) (n := 3) hT inlX5 (hT _ tb_216)
      exact ⟨(c0, i0), fun q hq => by cases hq; exact h0⟩
    · obtain ⟨c0, i0, h0⟩ := u_known (C := RX6) (T := TX6) (N := 3) (n := 3) hT inlX6 (hT _ tb_113)
      exact ⟨(c0, i0), fun q hq => by cases hq; exact h0⟩
    · obtain ⟨c0, i0, h0⟩ := u_known (C := RX7) (T := TX7) (N := 2) (n := 2) hT inlX7 (hT _ tb_38)
      exact ⟨(c0, i0), fun q hq => by cases hq; exact h0⟩
    · obtain ⟨c0, i0, h0⟩ := u_known (C := RX8) (T := TX8) (N := 2) (n := 2) hT inlX8 (hT _ tb_132)
      exact ⟨(c0, i0), fun q hq => by cases hq; exact h0⟩
    · obtain ⟨c0, i0, h0⟩ := u_known (C := RX9) (T := TX9) (N := 14) (n := 14) hT inlX9 (hT _ tb_30)
      exact ⟨(c0, i0), fun q hq => by cases hq; exact h0⟩
    · exact ⟨(0, fun _ => 0), fun q hq => by rw [List.getElem?_eq_none (show vwCl.length ≤ k from hk)] at hq; cases hq⟩
  obtain ⟨f, hf⟩ := Classical.axiomOfChoice h
  obtain ⟨c0, k0, p0, a1, a2, a3⟩ := Cond.arrayClass_spec (hT _ tb_51)
  obtain ⟨c1, k1, p1, b1, b2, b3⟩ := Cond.arrayClass_spec (hT _ tb_170)
  obtain ⟨c2, k2, p2, d1, d2, d3⟩ := Cond.arrayClass_spec (hT _ tb_199)
  have w3 : (Cond.arrayOver (.object "NameSeeker$Name")).before #[Value.ref b] s = true := hts _ (List.mem_of_getElem? (i := 59) rfl)
  have w4 : (Cond.arrayOver (.object "NameSeeker$Word")).before #[Value.ref b] s = true := hts _ (List.mem_of_getElem? (i := 148) rfl)
  have w5 : (Cond.arrayOver (.array .int)).before #[Value.ref b] s = true := hts _ (List.mem_of_getElem? (i := 156) rfl)
  obtain ⟨p3, c3, k3, e1, -, e3, e4, e5⟩ := Cond.arrayOver_spec w3
  obtain ⟨p4, c4, k4, f1, -, f3, f4, f5⟩ := Cond.arrayOver_spec w4
  obtain ⟨p5, c5, k5, -, -, g3, g4, g5⟩ := Jvm.Stand.arrayOver_specB w5
  have hN : Nst s := by
    intro q hq
    obtain ⟨i, hi⟩ := List.getElem?_of_mem hq
    have hi15 : i < 15 := (List.getElem?_eq_some_iff.mp hi).1
    rcases (show i = 0 ∨ i = 1 ∨ i = 2 ∨ i = 3 ∨ i = 4 ∨ i = 5 ∨ i = 6 ∨ i = 7 ∨ i = 8 ∨ i = 9 ∨ i = 10 ∨ i = 11 ∨ i = 12 ∨ i = 13 ∨ i = 14 by omega) with rfl | rfl | rfl | rfl | rfl | rfl | rfl | rfl | rfl | rfl | rfl | rfl | rfl | rfl | rfl
    · cases hi; exact va_Nw.of rfl (hts _ (List.mem_of_getElem? (i := 345) rfl))
    · cases hi; exact va_Nw.of rfl (hts _ (List.mem_of_getElem? (i := 346) rfl))
    · cases hi; exact va_Nw.of rfl (hts _ (List.mem_of_getElem? (i := 347) rfl))
    · cases hi; exact va_Nw.of rfl (hts _ (List.mem_of_getElem? (i := 348) rfl))
    · cases hi; exact va_Nw.of rfl (hts _ (List.mem_of_getElem? (i := 364) rfl))
    · cases hi; exact va_Nw.of rfl (hts _ (List.mem_of_getElem? (i := 478) rfl))
    · cases hi; exact va_Nw.of rfl (hts _ (List.mem_of_getElem? (i := 461) rfl))
    · cases hi; exact va_Nw.of rfl (hts _ (List.mem_of_getElem? (i := 61) rfl))
    · cases hi; exact va_Nw.of rfl (hts _ (List.mem_of_getElem? (i := 39) rfl))
    · cases hi; exact va_Nw.of rfl (hts _ (List.mem_of_getElem? (i := 114) rfl))
    · cases hi; exact va_Nw.of rfl (hts _ (List.mem_of_getElem? (i := 133) rfl))
    · cases hi; exact va_Nw.of rfl (hts _ (List.mem_of_getElem? (i := 151) rfl))
    · cases hi; exact va_Nw.of rfl (hts _ (List.mem_of_getElem? (i := 173) rfl))
    · cases hi; exact va_Nw.of rfl (hts _ (List.mem_of_getElem? (i := 202) rfl))
    · cases hi; exact va_Nw.of rfl (hts _ (List.mem_of_getElem? (i := 217) rfl))
  obtain ⟨adK, adV, hSt, hEv⟩ := vk_Sof (args := #[Value.ref b]) (s := s) (N := 1) (tm := fun _ => .string "NameSeeker" 85) (len := [78]) (byt := [txL.map iI]) (A := aS s) (fun i hi => by have h0 : i = 0 := Nat.lt_one_iff.mp hi; subst h0; exact (by decide : (78 : Nat) < 2 ^ 31)) (fun i hi => hs _ (by decide +kernel)) (fun i hi => hs _ (by decide +kernel)) (fun i hi => hs _ (by decide +kernel)) (fun i hi => by
    obtain rfl : i = 0 := by omega
    exact hs _ (by decide +kernel)) (fun i hi j hj => by
    obtain rfl : i = 0 := by omega
    exact hs _ (tx_at j hj)) (fun i j hi hj hij => absurd (by omega) hij) hA
  obtain ⟨o1, o2, o3, o4⟩ := hSt.1 0 (by omega)
  have o5 : va_T .byte (adV 0) 78 (fun j => .int ((txL.map iI).getD j 0)) (aS s) s s.heap := o4
  rw [tx_fn] at o5
  have hz : va_Z "java/lang/String" "COMPACT_STRINGS" "Z" (.int (iI 1)) (aS s) s s.heap := va_Zof (args := #[Value.ref b]) (hts _ (List.mem_of_getElem? (i := 244) rfl)) (hts _ (List.mem_of_getElem? (i := 24) rfl)) (va_eqt (z := 1) (hs _ (by decide +kernel))) hA
  have hzq : va_Zq "jdk/internal/util/Preconditions" "SIOOBE_FORMATTER" "Ljava/util/function/BiFunction;" (aS s) s s.heap := va_Zqof (args := #[Value.ref b]) (hts _ (List.mem_of_getElem? (i := 260) rfl)) (hts _ (List.mem_of_getElem? (i := 26) rfl)) (hs _ (by decide +kernel)) hA
  refine ⟨(fun k => (f k).1, fun k => (f k).2), fun i => [c0, c1, c2, c3, c4, c5].getD i 0, adK 0, adV 0, ⟨⟨fun k q hq => hf k q hq, fun k q hq => ?_⟩, hN, va_AO.of w3, va_AO.of w4, w5⟩, ⟨o1, o2, o3, o5, hz, hzq⟩, vk_R.of (A := #[Value.ref b]) (hts _ (List.mem_of_getElem? (i := 234) rfl)) (hEv 0 (by omega))⟩
  rcases (show k = 0 ∨ k = 1 ∨ k = 2 ∨ k = 3 ∨ k = 4 ∨ k = 5 ∨ 6 ≤ k by omega) with rfl | rfl | rfl | rfl | rfl | rfl | hk
  · cases hq; exact ⟨fun n z => ⟨fun q h => (by cases h), k0, a2, p0, a3⟩, a1⟩
  · cases hq; exact ⟨fun n z => ⟨fun q h => (by cases h), k1, b2, p1, b3⟩, b1⟩
  · cases hq; exact ⟨fun n z => ⟨fun q h => (by cases h), k2, d2, p2, d3⟩, d1⟩
  · cases hq; exact ⟨fun n z => ⟨fun q h => (by cases h), k3, e3, p3, e4⟩, ⟨k3, p3, e3, e4, e1, e5⟩⟩
  · cases hq; exact ⟨fun n z => ⟨fun q h => (by cases h), k4, f3, p4, f4⟩, ⟨k4, p4, f3, f4, f1, f5⟩⟩
  · cases hq; exact ⟨fun n z => ⟨fun q h => (by cases h), k5, g3, p5, g4⟩, g5⟩
  · rw [List.getElem?_eq_none (show (tyD _).length ≤ k from hk)] at hq; cases hq
/-- the class's cells at other places of the row of addresses, the law's arrays behind them -/
def gL (u : Nat → Nat) (q1 q2 q3 q4 : Nat) : Nat → Nat := fun i => bif Nat.blt i 57 then u i else ([q1, q2, q3, q4] : List Nat).getD (i - 57) 0
def sL (S : St) : St := (fun c => bif Nat.blt c 70 then S.1 c else fun _ => 0, S.2)
theorem gL_lt {u : Nat → Nat} {q1 q2 q3 q4 i : Nat} (h : i < 57) : gL u q1 q2 q3 q4 i = u i := by
  unfold gL
  rw [show Nat.blt i 57 = true from Nat.ble_eq.mpr h]; rfl
theorem sL_lt {S : St} {c : Nat} (h : c < 70) : (sL S).1 c = S.1 c := by
  unfold sL
  dsimp only
  rw [show Nat.blt c 70 = true from Nat.ble_eq.mpr h]; rfl
theorem cellQ {cA : ClassId} {n : Nat} {f g : Nat → Option Nat} (h : ∀ j : Nat, j < n → f j = g j) : vp_cell cA (n, .inr (.inr (.inr (.inr f)))) = vp_cell cA (n, .inr (.inr (.inr (.inr g)))) := by
  show arrV cA n (fun j => va_rf (f j)) = arrV cA n (fun j => va_rf (g j))
  unfold arrV
  congr 1
  apply Array.ext
  · simp
  · intro i h1 h2
    simp only [Array.size_ofFn] at h1
    simp only [Array.getElem_ofFn]
    rw [h i h1]
theorem P_setQ {D : va_G} {cl : List vw_C} {A : Nat → Prop} {p a : Nat} {ws : va_W} {cA : ClassId} {n : Nat} {f g : Nat → Option Nat} {H : Heap} (h : va_P D cl ws H) (hD : va_D A ws) (hp : ws[p]? = some (a, .inl (cA, n, .inr (.inr (.inr (.inr f)))))) (e : ∀ j : Nat, j < n → f j = g j) : va_P D cl (ws.set p (a, .inl (cA, n, .inr (.inr (.inr (.inr g)))))) H := by
  refine va_P.set h hD hp ?_ (fun _ _ => rfl)
  have h1 : H[a]? = some (vp_cell cA (n, .inr (.inr (.inr (.inr f))))) := h p _ hp
  show H[a]? = some (vp_cell cA (n, .inr (.inr (.inr (.inr g)))))
  rw [h1, cellQ e]
theorem wC_move {D : va_G} {cI : Nat → ClassId} {A : Nat → Prop} {u : Nat → Nat} {S : St} {q1 q2 q3 q4 : Nat} {H : Heap} (hS : ∀ i : Nat, i < 8 → S.2 i < 8) (hP : va_P D vwCl (wC (D, cI, u) S) H) (hD : va_D A (wC (D, cI, u) S)) : va_P D vwCl (wC (D, cI, gL u q1 q2 q3 q4) (sL S)) H := by
  have h1 := P_setQ (p := 4) (g := fun i : Nat => some (gL u q1 q2 q3 q4 (41 + 2 * S.2 i))) hP hD rfl (fun j hj => by rw [gL_lt (by have := hS j hj; omega)])
  have d1 := va_D.set (p := 4) (e := .inl (cI 3, 8, .inr (.inr (.inr (.inr (fun i : Nat => some (gL u q1 q2 q3 q4 (41 + 2 * S.2 i)))))))) hD rfl
  have h2 := P_setQ (p := 14) (g := fun i : Nat => some (gL u q1 q2 q3 q4 (6 + 2 * (2 + i)))) h1 d1 rfl (fun j hj => by rw [gL_lt (by omega)])
  have d2 := va_D.set (p := 14) (e := .inl (cI 4, 2, .inr (.inr (.inr (.inr (fun i : Nat => some (gL u q1 q2 q3 q4 (6 + 2 * (2 + i)))))))) ) d1 rfl
  have h3 := P_setQ (p := 16) (g := fun i : Nat => some (gL u q1 q2 q3 q4 (17 + i))) h2 d2 rfl (fun j hj => by rw [gL_lt (by omega)])
  have d3 := va_D.set (p := 16) (e := .inl (cI 5, 6, .inr (.inr (.inr (.inr (fun i : Nat => some (gL u q1 q2 q3 q4 (17 + i)))))))) d2 rfl
  have h4 := P_setQ (p := 23) (g := fun i : Nat => some (gL u q1 q2 q3 q4 (24 + i))) h3 d3 rfl (fun j hj => by rw [gL_lt (by omega)])
  exact h4
set_option maxRecDepth 100000 in
set_option maxHeartbeats 4000000 in
theorem whole_start {p : Program} {e : Env} {s : State} {m : MethodId} {below : List Frame} {meth : Method} {c : Code} (l : Launch) (hflags : l.flags = flags0) {b L : Nat} {xs : Nat → Int32} (hL : L ≤ 260) (C0 : lw_At p s m meth c b L xs) : W p l e room_1 s m #[Value.ref b] below meth c s.heap [] 0 0 (lw_Z below #[Value.ref b] s) (entryFrame m ([Value.ref b] : List Value).toArray 14) := by
  obtain ⟨hx, hb, hr, hml, hown, hts, hX, hbl, hlocks, hgv⟩ := id C0
  obtain ⟨D, cI, kS, vS, hE, hSA, hR⟩ := law_env C0
  have X : CallFix p m c cL_law 14 s #[Value.ref b] TB "NameSeekerLaw" := ⟨hx, hb, hml, hown, fun w h => hts w (List.mem_filter.mp h).1⟩
  rw [lg_entry_eq]
  have hl := lv_entry ([Value.ref b]) (n := 14) (Nat.le_of_ble_eq_true rfl)
  generalize (lg_sl ([Value.ref b]) ++ List.replicate (14 - (lg_sl ([Value.ref b])).length) Slot.unset).toArray = ls at hl ⊢
  have hl : lv_has ls 14 [(0, .ref b)] := hl
  have B : Bd D cI (aS s) s s.heap s.heap [] [] := ⟨hE, fun k q h => by simp at h, ⟨fun i j p q h => by simp at h, fun k q h => by simp at h⟩, va_S.rf, fun q h => h⟩
  refine b_new X B (C := RX9) (T := TX9) (N := 14) 9 [.null, .null, .null, .null, .null, .null, .null, .null, .null, .null, .int (iI 0), .int (iI 0), .int (iI 0), .int (iI 0)] rfl inlX9 tyX9 tyX9_ok tb_29 tb_30 tb_14 dfX9 (Nat.le_of_ble_eq_true rfl) (Nat.le_of_ble_eq_true rfl) dL_law_0 (fun q H B => ?_)
  have B : Bd D cI (aS s) s s.heap H [] ([] ++ [(q, e9)]) := B
  refine lv_dup X.1 X.2.1 dL_law_3 rfl ?_
  have hSA1 : SA (va_A [(q, e9)] H.size) kS vS s H := (hSA.kept (fun a h1 h2 => B.2.2.2.1.2.1 a h1 h2)).narrow B.free
  refine b_backG (post := fun u : (Nat → Nat) × St => u.1 0 = q ∧ JC0 u.2) (Wd := fun u : (Nat → Nat) × St => wC (D, cI, u.1) u.2) B (va_runI (As := []) (rest := [.ref q]) X (k_X9_init l D cI q H.size kS vS) (cwI 0 X.2.2.2.2 (gdC tb_33 gdB) rfl rfl rfl (X.2.2.2.2 _ tb_14) (X.2.2.2.2 _ tb_31) (X.2.2.2.2 _ tb_32) rfl ok_X9_init ⟨Nat.le_of_ble_eq_true rfl, Nat.le_of_ble_eq_true rfl⟩) ⟨fun a U g mk z => ⟨z.1, z.2.1, z.2.2.1.calls, z.2.2.2.1, SA.moved (u := U) (U := U.calling g mk a) (Vm.Alike.refl U.vm) z.2.2.2.2.1, vk_R.same (u := U) (U := U.calling g mk a) rfl z.2.2.2.2.2⟩, fun U hU hW => ⟨rfl, by rw [hU], B.1.warm hW, by rw [hU]; exact B.last, by rw [hU]; exact SA.moved hW.alike hSA1, vk_R.warm hW hR⟩⟩ rfl rfl hl.1 rfl (lv_room (Nat.le_of_ble_eq_true rfl)) dL_law_4 ⟨Nat.le_of_ble_eq_true rfl, Nat.le_of_ble_eq_true rfl⟩) (fun u H locs hu B => ?_)
  obtain ⟨hq, hJC⟩ := hu
  have B : Bd D cI (aS s) s s.heap H locs (wC (D, cI, u.1) u.2) := B
  refine lv_astore_n (lv' := [(1, .ref q), (0, .ref b)]) X.1 X.2.1 dL_law_7 rfl hl (by decide) rfl (fun ls hl => ?_)
  refine ri_push X (v := 32) (by decide) dL_law_8 ?_
  refine b_newa X B (atype := .int) 1 (ty := .int) rfl rfl tb_170 (N' := 32) (32, .inl (fun _ => iI 0)) (fun _ => rfl) (by decide) rfl (Nat.le_of_ble_eq_true rfl) (Nat.le_of_ble_eq_true rfl) (Nat.le_of_ble_eq_true rfl) dL_law_10 (fun q1 H B => ?_)
  refine lv_astore_n (lv' := [(2, .ref q1), (1, .ref q), (0, .ref b)]) X.1 X.2.1 dL_law_12 rfl hl (by decide) rfl (fun ls hl => ?_)
  refine ri_push X (v := 8) (by decide) dL_law_13 ?_
  refine b_newa X B (atype := .long) 2 (ty := .long) rfl rfl tb_199 (N' := 8) (8, .inr (.inl (fun _ => lI 0))) (fun _ => rfl) (by decide) rfl (Nat.le_of_ble_eq_true rfl) (Nat.le_of_ble_eq_true rfl) (Nat.le_of_ble_eq_true rfl) dL_law_15 (fun q2 H B => ?_)
  refine lv_astore_n (lv' := [(3, .ref q2), (2, .ref q1), (1, .ref q), (0, .ref b)]) X.1 X.2.1 dL_law_17 rfl hl (by decide) rfl (fun ls hl => ?_)
  refine ri_push X (v := 8) (by decide) dL_law_18 ?_
  refine b_newa X B (atype := .int) 1 (ty := .int) rfl rfl tb_170 (N' := 8) (8, .inl (fun _ => iI 0)) (fun _ => rfl) (by decide) rfl (Nat.le_of_ble_eq_true rfl) (Nat.le_of_ble_eq_true rfl) (Nat.le_of_ble_eq_true rfl) dL_law_20 (fun q3 H B => ?_)
  refine lv_astore (lv' := [(4, .ref q3), (3, .ref q2), (2, .ref q1), (1, .ref q), (0, .ref b)]) X.1 X.2.1 dL_law_22 hl (by decide) rfl (fun ls hl => ?_)
  refine ri_push X (v := 24) (by decide) dL_law_24 ?_
  refine b_newa X B (atype := .int) 1 (ty := .int) rfl rfl tb_170 (N' := 24) (24, .inl (fun _ => iI 0)) (fun _ => rfl) (by decide) rfl (Nat.le_of_ble_eq_true rfl) (Nat.le_of_ble_eq_true rfl) (Nat.le_of_ble_eq_true rfl) dL_law_26 (fun q4 H B => ?_)
  refine lv_astore (lv' := [(5, .ref q4), (4, .ref q3), (3, .ref q2), (2, .ref q1), (1, .ref q), (0, .ref b)]) X.1 X.2.1 dL_law_28 hl (by decide) rfl (fun ls hl => ?_)
  refine W.widen (k := 61) (n := 816) (Nat.le_of_ble_eq_true rfl) (Nat.le_of_ble_eq_true rfl) ?_
  have hP2 : ∀ i : Nat, i < 8 → u.2.2 i < 8 := by
    obtain ⟨_, _, _, _, e⟩ := hJC
    rw [e]; exact fun i hi => hi
  have B2 : Bd D cI (aS s) s s.heap H locs (wC (D, cI, u.1) u.2 ++ [(q1, .inl (cI 1, 32, .inl (fun _ => iI 0))), (q2, .inl (cI 2, 8, .inr (.inl (fun _ => lI 0)))), (q3, .inl (cI 1, 8, .inl (fun _ => iI 0))), (q4, .inl (cI 1, 24, .inl (fun _ => iI 0)))]) := by
    have e : (((wC (D, cI, u.1) u.2 ++ [(q1, .inl (cI 1, 32, .inl (fun _ => iI 0)))]) ++ [(q2, .inl (cI 2, 8, .inr (.inl (fun _ => lI 0))))]) ++ [(q3, .inl (cI 1, 8, .inl (fun _ => iI 0)))]) ++ [(q4, .inl (cI 1, 24, .inl (fun _ => iI 0)))] = wC (D, cI, u.1) u.2 ++ [(q1, .inl (cI 1, 32, .inl (fun _ => iI 0))), (q2, .inl (cI 2, 8, .inr (.inl (fun _ => lI 0)))), (q3, .inl (cI 1, 8, .inl (fun _ => iI 0))), (q4, .inl (cI 1, 24, .inl (fun _ => iI 0)))] := by simp only [List.append_assoc, List.singleton_append, List.cons_append, List.nil_append]
    rw [← e]; exact B
  have hwT : wT (D, cI, gL u.1 q1 q2 q3 q4) (sL u.2) = [(q1, .inl (cI 1, 32, .inl (fun _ => iI 0))), (q2, .inl (cI 2, 8, .inr (.inl (fun _ => lI 0)))), (q3, .inl (cI 1, 8, .inl (fun _ => iI 0))), (q4, .inl (cI 1, 24, .inl (fun _ => iI 0)))] := rfl
  have hmap : (wC (D, cI, u.1) u.2 ++ [(q1, .inl (cI 1, 32, .inl (fun _ => iI 0))), (q2, .inl (cI 2, 8, .inr (.inl (fun _ => lI 0)))), (q3, .inl (cI 1, 8, .inl (fun _ => iI 0))), (q4, .inl (cI 1, 24, .inl (fun _ => iI 0)))] : va_W).map Prod.fst = (wL (D, cI, gL u.1 q1 q2 q3 q4) (sL u.2)).map Prod.fst := rfl
  have I : In (KL (aS s) (D, cI, gL u.1 q1 q2 q3 q4)) s s.heap H locs (sL u.2) := by
    refine ⟨hE.1, ?_, va_D.same hmap B2.2.2.1, B2.2.2.2.1, hE.2.1⟩
    show va_P D vwCl (wC (D, cI, gL u.1 q1 q2 q3 q4) (sL u.2) ++ wT (D, cI, gL u.1 q1 q2 q3 q4) (sL u.2)) H
    rw [hwT]
    exact va_P.app (wC_move hP2 (va_P.left B2.2.1) (va_D.left B2.2.2.1)) (va_P.right B2.2.1)
  have hLB : LB 6 1 0 0 0 (sL u.2) := LB_fr70 (LB_0 hJC) rfl (fun c2 i h => by rw [sL_lt h])
  have hl : lv_has ls 14 [(5, .ref ((gL u.1 q1 q2 q3 q4) 60)), (4, .ref ((gL u.1 q1 q2 q3 q4) 59)), (3, .ref ((gL u.1 q1 q2 q3 q4) 58)), (2, .ref ((gL u.1 q1 q2 q3 q4) 57)), (1, .ref ((gL u.1 q1 q2 q3 q4) 0)), (0, .ref b)] := by
    subst hq; exact hl
  exact law_P1 (G := (D, cI, gL u.1 q1 q2 q3 q4)) X hr hlocks ⟨hX, hbl⟩ hL (Nat.not_le.mpr hbl) ((sL u.2).1 70) ((sL u.2).1 71) ((sL u.2).1 72) ((sL u.2).1 73) ⟨fun _ => rfl, fun _ => rfl, fun _ => rfl, fun _ => rfl⟩ hLB I (lv_sub hl [5, 4, 3, 2, 1, 0] rfl)
