/-- where the next letter is laid best: what it is worth, its place (-1: nowhere) -/
def nxl (T c : Int → Int) : Nat → Int → Int → Int → Int × Int
  | 0, _, gr, nx => (gr, nx)
  | k + 1, q, gr, nx => if T q = -4 then nxl T c k (q + 1) gr nx else if nx = -1 ∨ gr < T q + c q then nxl T c k (q + 1) (T q + c q) q else nxl T c k (q + 1) gr nx
theorem nxl_skip {T c : Int → Int} {n q gr nx : Int} (h : q < n) (hT : T q = -4) : nxl T c (n - q).toNat q gr nx = nxl T c (n - (q + 1)).toNat (q + 1) gr nx := by
  rw [show (n - q).toNat = (n - (q + 1)).toNat + 1 by omega, nxl, if_pos hT]
theorem nxl_take {T c : Int → Int} {n q gr nx : Int} (h : q < n) (hT : ¬ T q = -4) (h2 : nx = -1 ∨ gr < T q + c q) : nxl T c (n - q).toNat q gr nx = nxl T c (n - (q + 1)).toNat (q + 1) (T q + c q) q := by
  rw [show (n - q).toNat = (n - (q + 1)).toNat + 1 by omega, nxl, if_neg hT, if_pos h2]
theorem nxl_keep {T c : Int → Int} {n q gr nx : Int} (h : q < n) (hT : ¬ T q = -4) (h2 : ¬ nx = -1) (h3 : ¬ gr < T q + c q) : nxl T c (n - q).toNat q gr nx = nxl T c (n - (q + 1)).toNat (q + 1) gr nx := by
  rw [show (n - q).toNat = (n - (q + 1)).toNat + 1 by omega, nxl, if_neg hT, if_neg (fun z => z.elim h2 h3)]
/-- a letter's row: the worth of the best way from there on (-4: none), the next place -/
def rw1 (T sg : Int → Int) (kd bg b r g n x d q : Int) : Int × Int :=
  if alk (sg q) kd x then (if d = 0 then (opl bg kd b q, -1) else ((if (nxl T (ost kd r g q) (n - (q + 1)).toNat (q + 1) 0 (-1)).2 = -1 then -4 else opl bg kd b q + (nxl T (ost kd r g q) (n - (q + 1)).toNat (q + 1) 0 (-1)).1), (nxl T (ost kd r g q) (n - (q + 1)).toNat (q + 1) 0 (-1)).2)) else (-4, -1)

theorem ok_X2_workOutNext : yX2_workOutNext.cls ≠ "java/lang/invoke/MethodHandle" ∧ yX2_workOutNext.cls ≠ "java/lang/invoke/VarHandle" ∧ (parseMethodDescriptor yX2_workOutNext.desc).map (fun d => d.parameters.length) = some 4 := ⟨by decide +kernel, by decide +kernel, by decide +kernel⟩
abbrev po_X2_workOutNext (S : St) (j : Nat) (k : Int) (q0 : Int) (n_ : Int) (kd : Int) (bg : Int) (b_ : Int) (r_ : Int) (g_ : Int) (T : Int → Int) : St → Prop := fun S1 => S1 = (ua (ua S.1 (40 + k.toNat) q0 (nxl T (ost kd r_ g_ q0) (n_ - (q0 + 1)).toNat (q0 + 1) 0 (-1)).2) (30 + k.toNat) q0 (if (nxl T (ost kd r_ g_ q0) (n_ - (q0 + 1)).toNat (q0 + 1) 0 (-1)).2 = -1 then -4 else opl bg kd b_ q0 + (nxl T (ost kd r_ g_ q0) (n_ - (q0 + 1)).toNat (q0 + 1) 0 (-1)).1), S.2)
abbrev rm_X2_workOutNext : Room := ({ frames := 1, cells := 0, slots := 0, locals := 23 } : Room)
set_option maxRecDepth 100000 in
set_option maxHeartbeats 4000000 in
theorem k_X2_workOutNext (l : Launch) (G : Ge) (S : St) (j : Nat) (k : Int) (q0 : Int) (n_ : Int) (kd : Int) (bg : Int) (b_ : Int) (r_ : Int) (g_ : Int) (T : Int → Int) (e_n_ : S.1 2 (j : Int) = n_) (e_kd : S.1 3 (j : Int) = kd) (e_bg : S.1 6 (j : Int) = bg) (e_b_ : S.1 53 0 = b_) (e_r_ : S.1 54 0 = r_) (e_g_ : S.1 55 0 = g_) (e_T : ∀ i : Int, S.1 (30 + (k + 1).toNat) i = T i) (hj : j < 8) (hn : 0 ≤ n_ ∧ n_ ≤ 12) (hkd : 0 ≤ kd ∧ kd ≤ 3) (hbg : 0 ≤ bg ∧ bg < 2147483648) (hB : 0 ≤ b_ ∧ b_ ≤ 9) (hR : 0 ≤ r_ ∧ r_ ≤ 9) (hG : 0 ≤ g_ ∧ g_ ≤ 9) (hk : 0 ≤ k ∧ k < 5) (hq : 0 ≤ q0 ∧ q0 < n_) (hT : ∀ i : Int, 0 ≤ i → i < n_ → -1000 ≤ T i ∧ T i ≤ 1000) : Kv (KC G) l yX2_workOutNext cX2_workOutNext 9 rm_X2_workOutNext [.ref (G.2.2 15), .ref (G.2.2 (41 + 2 * j)), .int (iI k), .int (iI q0), .ref (G.2.2 5)] S (po_X2_workOutNext S j k q0 n_ kd bg b_ r_ g_ T) := by
  refine K_start (own := "NameSeeker$Laying") (by decide +kernel) rfl (Nat.le_of_ble_eq_true rfl) ?_
  intro p e s m args below meth c X hr hlk I ls hl
  have hl : lv_has ls 9 [(0, .ref (G.2.2 15)), (1, .ref (G.2.2 (41 + 2 * j))), (2, .int (iI k)), (3, .int (iI q0)), (4, .ref (G.2.2 5))] := hl
  refine ri_const X (v := 0) dX2_workOutNext_0 ?_
  refine lv_istore (lv' := [(5, .int (iI 0)), (0, .ref (G.2.2 15)), (1, .ref (G.2.2 (41 + 2 * j))), (2, .int (iI k)), (3, .int (iI q0)), (4, .ref (G.2.2 5))]) X.1 X.2.1 dX2_workOutNext_1 hl (by decide) rfl (fun ls hl => ?_)
  refine ri_const X (v := (-1)) dX2_workOutNext_3 ?_
  refine lv_istore (lv' := [(6, .int (iI (-1))), (5, .int (iI 0)), (0, .ref (G.2.2 15)), (1, .ref (G.2.2 (41 + 2 * j))), (2, .int (iI k)), (3, .int (iI q0)), (4, .ref (G.2.2 5))]) X.1 X.2.1 dX2_workOutNext_4 hl (by decide) rfl (fun ls hl => ?_)
  refine lv_iload_n X.1 X.2.1 dX2_workOutNext_6 rfl (lv_at hl 5 rfl) ?_
  refine ri_const X (v := 1) dX2_workOutNext_7 ?_
  refine ri_add X (v := (q0 + 1)) rfl dX2_workOutNext_8 ?_
  refine lv_istore (lv' := [(7, .int (iI (q0 + 1))), (6, .int (iI (-1))), (5, .int (iI 0)), (0, .ref (G.2.2 15)), (1, .ref (G.2.2 (41 + 2 * j))), (2, .int (iI k)), (3, .int (iI q0)), (4, .ref (G.2.2 5))]) X.1 X.2.1 dX2_workOutNext_9 hl (by decide) rfl (fun ls hl => ?_)
  have lp_11 : ∀ (fu_ : Nat) (gr : Int) (nx : Int) (q : Int), (12 - q).toNat < fu_ → ∀ (hq2 : q0 + 1 ≤ q ∧ q ≤ n_) (hgr : -2000 ≤ gr ∧ gr ≤ 2000 ∧ -1 ≤ nx ∧ nx < q) (hz : nxl T (ost kd r_ g_ q0) (n_ - q).toNat q gr nx = nxl T (ost kd r_ g_ q0) (n_ - (q0 + 1)).toNat (q0 + 1) 0 (-1)) (H : Heap) (locs : List Loc), In (KC G) s s.heap H locs S → ∀ ls : Array Slot, lv_has ls 9 [(0, .ref (G.2.2 15)), (1, .ref (G.2.2 (41 + 2 * j))), (2, .int (iI k)), (3, .int (iI q0)), (4, .ref (G.2.2 5)), (5, .int (iI gr)), (6, .int (iI nx)), (7, .int (iI q))] → W p l e rm_X2_workOutNext s m args below meth c H locs 0 0 (MQ below (QV (KC G) (po_X2_workOutNext S j k q0 n_ kd bg b_ r_ g_ T)) args s 0 0 (KC G).2.2.2) (F0 m 11 ls []) := by
    intro fu_
    induction fu_ with
    | zero => intro gr nx q hm; exact absurd hm (by omega)
    | succ fu_ ih_11 =>
      intro gr nx q hm_11 hq2 hgr hz H locs I ls hl
      refine lv_iload X.1 X.2.1 dX2_workOutNext_11 (lv_at hl 7 rfl) ?_
      refine lv_aload_n X.1 X.2.1 dX2_workOutNext_13 rfl (lv_at hl 1 rfl) ?_
      refine gC_name_size X I (j := j) hj (v := n_) e_n_ tb_67 dX2_workOutNext_14 ?_
      refine rj_ge (tgt := 89) X (by omega) (by omega) dX2_workOutNext_17 (by decide) (fun c1 => ?_) (fun c1 => ?_)
      · skip
        have hZ : nxl T (ost kd r_ g_ q0) (n_ - (q0 + 1)).toNat (q0 + 1) 0 (-1) = (gr, nx) := by
          rw [← hz, show (n_ - q).toNat = 0 by omega]; rfl
        refine lv_aload_n X.1 X.2.1 dX2_workOutNext_89 rfl (lv_at hl 0 rfl) ?_
        refine gC_laying_nexts X I tb_158 dX2_workOutNext_90 ?_
        refine lv_iload_n X.1 X.2.1 dX2_workOutNext_93 rfl (lv_at hl 2 rfl) ?_
        refine aC_nextsO X I (by omega) dX2_workOutNext_94 ?_
        refine lv_iload_n X.1 X.2.1 dX2_workOutNext_95 rfl (lv_at hl 3 rfl) ?_
        refine lv_iload X.1 X.2.1 dX2_workOutNext_96 (lv_at hl 6 rfl) ?_
        refine qC_nexts X I (k := k.toNat) (by omega) (by omega) dX2_workOutNext_98 (fun H locs I => ?_)
        have I : In (KC G) s s.heap H locs ((ua S.1 (40 + k.toNat) q0 nx), S.2) := I
        refine lv_aload_n X.1 X.2.1 dX2_workOutNext_99 rfl (lv_at hl 0 rfl) ?_
        refine gC_laying_tails X I tb_157 dX2_workOutNext_100 ?_
        refine lv_iload_n X.1 X.2.1 dX2_workOutNext_103 rfl (lv_at hl 2 rfl) ?_
        refine aC_tailsO X I (by omega) dX2_workOutNext_104 ?_
        refine lv_iload_n X.1 X.2.1 dX2_workOutNext_105 rfl (lv_at hl 3 rfl) ?_
        refine lv_iload X.1 X.2.1 dX2_workOutNext_106 (lv_at hl 6 rfl) ?_
        refine ri_const X (v := (-1)) dX2_workOutNext_108 ?_
        refine rj_ne (tgt := 117) X (by omega) (by omega) dX2_workOutNext_109 (by decide) (fun c2 => ?_) (fun c2 => ?_)
        · skip
          refine lv_aload X.1 X.2.1 dX2_workOutNext_117 (lv_at hl 4 rfl) ?_
          refine lv_aload_n X.1 X.2.1 dX2_workOutNext_119 rfl (lv_at hl 1 rfl) ?_
          refine lv_iload_n X.1 X.2.1 dX2_workOutNext_120 rfl (lv_at hl 3 rfl) ?_
          refine cl_i I (runV (As := [.ref (G.2.2 (41 + 2 * j)), .int (iI q0)]) (rest := [.int (iI q0), .ref (G.2.2 (17 + k.toNat))]) X (k_X6_ofPlace l G ((ua S.1 (40 + k.toNat) q0 nx), S.2) (j) q0 bg kd b_ (by (try dsimp only); rw [ua_nc (by omega)]; exact e_bg) (by (try dsimp only); rw [ua_nc (by omega)]; exact e_kd) (by (try dsimp only); rw [ua_nc (by omega)]; exact e_b_) hj (by omega) hkd hbg hB) (gdC tb_563 (gdC tb_564 (gdC tb_565 (gdC tb_18 (gdC tb_566 gdB))))) ⟨ok_X6_ofPlace, ⟨Nat.le_of_ble_eq_true rfl, Nat.le_of_ble_eq_true rfl⟩, rfl, rfl⟩ (PreV.of (C := RX6) (T := TX6) (N := 3) I (atC_scales) rfl) rfl hl.1 rfl (Nat.le_of_ble_eq_true rfl) dX2_workOutNext_121 ⟨Nat.zero_le _, Nat.zero_le _⟩) (fun r3 S4 H locs q5 I => ?_)
          obtain ⟨e1_, e2_⟩ := q5
          rw [e2_] at I
          rw [e1_]
          clear e1_ e2_
          have t6 := opl_r (bg := bg) (k := kd) (q := q0) (b := b_) (by omega)
          refine lv_iload X.1 X.2.1 dX2_workOutNext_124 (lv_at hl 5 rfl) ?_
          refine ri_add X (v := ((opl bg kd b_ q0) + gr)) rfl dX2_workOutNext_126 ?_
          refine qC_tails X I (k := k.toNat) (by omega) (by omega) dX2_workOutNext_127 (fun H locs I => ?_)
          have I : In (KC G) s s.heap H locs ((ua (ua S.1 (40 + k.toNat) q0 nx) (30 + k.toNat) q0 ((opl bg kd b_ q0) + gr)), S.2) := I
          exact rt_v X hr hlk I (by show (_ : St) = _; rw [hZ]; dsimp only; first | rw [if_pos (by omega)] | rw [if_neg (by omega)]) dX2_workOutNext_128
        · skip
          refine ri_push X (v := (-4)) (by decide) dX2_workOutNext_112 ?_
          refine lv_goto (tgt := 127) X.1 X.2.1 dX2_workOutNext_114 (by decide) ?_
          refine qC_tails X I (k := k.toNat) (by omega) (by omega) dX2_workOutNext_127 (fun H locs I => ?_)
          have I : In (KC G) s s.heap H locs ((ua (ua S.1 (40 + k.toNat) q0 nx) (30 + k.toNat) q0 (-4)), S.2) := I
          exact rt_v X hr hlk I (by show (_ : St) = _; rw [hZ]; dsimp only; first | rw [if_pos (by omega)] | rw [if_neg (by omega)]) dX2_workOutNext_128
      · skip
        have hTq := hT q (by omega) (by omega)
        refine lv_aload_n X.1 X.2.1 dX2_workOutNext_20 rfl (lv_at hl 0 rfl) ?_
        refine gC_laying_tails X I tb_157 dX2_workOutNext_21 ?_
        refine lv_iload_n X.1 X.2.1 dX2_workOutNext_24 rfl (lv_at hl 2 rfl) ?_
        refine ri_const X (v := 1) dX2_workOutNext_25 ?_
        refine ri_add X (v := (k + 1)) rfl dX2_workOutNext_26 ?_
        refine aC_tailsO X I (by omega) dX2_workOutNext_27 ?_
        refine lv_iload X.1 X.2.1 dX2_workOutNext_28 (lv_at hl 7 rfl) ?_
        refine aC_tails X I (k := (k + 1).toNat) (by omega) (v := (T q)) (e_T q) (by omega) dX2_workOutNext_30 ?_
        refine ri_push X (v := (-4)) (by decide) dX2_workOutNext_31 ?_
        refine rj_ne (tgt := 39) X (by omega) (by omega) dX2_workOutNext_33 (by decide) (fun c7 => ?_) (fun c7 => ?_)
        · skip
          refine lv_aload_n X.1 X.2.1 dX2_workOutNext_39 rfl (lv_at hl 0 rfl) ?_
          refine gC_laying_tails X I tb_157 dX2_workOutNext_40 ?_
          refine lv_iload_n X.1 X.2.1 dX2_workOutNext_43 rfl (lv_at hl 2 rfl) ?_
          refine ri_const X (v := 1) dX2_workOutNext_44 ?_
          refine ri_add X (v := (k + 1)) rfl dX2_workOutNext_45 ?_
          refine aC_tailsO X I (by omega) dX2_workOutNext_46 ?_
          refine lv_iload X.1 X.2.1 dX2_workOutNext_47 (lv_at hl 7 rfl) ?_
          refine aC_tails X I (k := (k + 1).toNat) (by omega) (v := (T q)) (e_T q) (by omega) dX2_workOutNext_49 ?_
          refine lv_aload X.1 X.2.1 dX2_workOutNext_50 (lv_at hl 4 rfl) ?_
          refine lv_aload_n X.1 X.2.1 dX2_workOutNext_52 rfl (lv_at hl 1 rfl) ?_
          refine lv_iload_n X.1 X.2.1 dX2_workOutNext_53 rfl (lv_at hl 3 rfl) ?_
          refine lv_iload X.1 X.2.1 dX2_workOutNext_54 (lv_at hl 7 rfl) ?_
          refine cl_i I (runV (As := [.ref (G.2.2 (41 + 2 * j)), .int (iI q0), .int (iI q)]) (rest := [.int (iI (T q))]) X (k_X6_ofStep l G S (j) q0 q kd r_ g_ e_kd e_r_ e_g_ hj (by omega) (by omega) hkd hR hG) (gdC tb_571 (gdC tb_572 (gdC tb_573 (gdC tb_18 (gdC tb_574 gdB))))) ⟨ok_X6_ofStep, ⟨Nat.le_of_ble_eq_true rfl, Nat.le_of_ble_eq_true rfl⟩, rfl, rfl⟩ (PreV.of (C := RX6) (T := TX6) (N := 3) I (atC_scales) rfl) rfl hl.1 rfl (Nat.le_of_ble_eq_true rfl) dX2_workOutNext_56 ⟨Nat.zero_le _, Nat.zero_le _⟩) (fun r8 S9 H locs q10 I => ?_)
          obtain ⟨e1_, e2_⟩ := q10
          rw [e2_] at I
          rw [e1_]
          clear e1_ e2_
          have t11 := ost_r (k := kd) (r := r_) (g := g_) (q := q0) (x := q) (by omega) (by omega) (by omega) (by omega)
          refine ri_add X (v := ((T q) + (ost kd r_ g_ q0 q))) rfl dX2_workOutNext_59 ?_
          refine lv_istore (lv' := [(8, .int (iI ((T q) + (ost kd r_ g_ q0 q)))), (0, .ref (G.2.2 15)), (1, .ref (G.2.2 (41 + 2 * j))), (2, .int (iI k)), (3, .int (iI q0)), (4, .ref (G.2.2 5)), (5, .int (iI gr)), (6, .int (iI nx)), (7, .int (iI q))]) X.1 X.2.1 dX2_workOutNext_60 hl (by decide) rfl (fun ls hl => ?_)
          refine lv_iload X.1 X.2.1 dX2_workOutNext_62 (lv_at hl 7 rfl) ?_
          refine ri_const X (v := (-1)) dX2_workOutNext_64 ?_
          refine rj_eq (tgt := 75) X (by omega) (by omega) dX2_workOutNext_65 (by decide) (fun c12 => ?_) (fun c12 => ?_)
          · skip
            refine lv_iload X.1 X.2.1 dX2_workOutNext_75 (lv_at hl 0 rfl) ?_
            refine lv_istore (lv' := [(5, .int (iI ((T q) + (ost kd r_ g_ q0 q)))), (8, .int (iI ((T q) + (ost kd r_ g_ q0 q)))), (0, .ref (G.2.2 15)), (1, .ref (G.2.2 (41 + 2 * j))), (2, .int (iI k)), (3, .int (iI q0)), (4, .ref (G.2.2 5)), (6, .int (iI nx)), (7, .int (iI q))]) X.1 X.2.1 dX2_workOutNext_77 hl (by decide) rfl (fun ls hl => ?_)
            refine lv_iload X.1 X.2.1 dX2_workOutNext_79 (lv_at hl 8 rfl) ?_
            refine lv_istore (lv' := [(6, .int (iI q)), (5, .int (iI ((T q) + (ost kd r_ g_ q0 q)))), (8, .int (iI ((T q) + (ost kd r_ g_ q0 q)))), (0, .ref (G.2.2 15)), (1, .ref (G.2.2 (41 + 2 * j))), (2, .int (iI k)), (3, .int (iI q0)), (4, .ref (G.2.2 5)), (7, .int (iI q))]) X.1 X.2.1 dX2_workOutNext_81 hl (by decide) rfl (fun ls hl => ?_)
            refine ri_iinc X (k := 8) (v := (q + 1)) (lv' := [(7, .int (iI (q + 1))), (6, .int (iI q)), (5, .int (iI ((T q) + (ost kd r_ g_ q0 q)))), (8, .int (iI ((T q) + (ost kd r_ g_ q0 q)))), (0, .ref (G.2.2 15)), (1, .ref (G.2.2 (41 + 2 * j))), (2, .int (iI k)), (3, .int (iI q0)), (4, .ref (G.2.2 5))]) rfl dX2_workOutNext_83 hl rfl (by decide) rfl (fun ls hl => ?_)
            refine lv_goto (tgt := 11) X.1 X.2.1 dX2_workOutNext_86 (by decide) ?_
            exact ih_11 ((T q) + (ost kd r_ g_ q0 q)) q (q + 1) (by omega) (by omega) (by omega) (by rw [← hz]; first | exact (nxl_skip (by omega) (by omega)).symm | exact (nxl_take (by omega) (by omega) (by omega)).symm | exact (nxl_keep (by omega) (by omega) (by omega) (by omega)).symm) _ _ I ls (lv_sub hl [4, 5, 6, 7, 8, 2, 1, 0] rfl)
          · skip
            refine lv_iload X.1 X.2.1 dX2_workOutNext_68 (lv_at hl 0 rfl) ?_
            refine lv_iload X.1 X.2.1 dX2_workOutNext_70 (lv_at hl 6 rfl) ?_
            refine rj_le (tgt := 83) X (by omega) (by omega) dX2_workOutNext_72 (by decide) (fun c13 => ?_) (fun c13 => ?_)
            · skip
              refine ri_iinc X (k := 8) (v := (q + 1)) (lv' := [(7, .int (iI (q + 1))), (8, .int (iI ((T q) + (ost kd r_ g_ q0 q)))), (0, .ref (G.2.2 15)), (1, .ref (G.2.2 (41 + 2 * j))), (2, .int (iI k)), (3, .int (iI q0)), (4, .ref (G.2.2 5)), (5, .int (iI gr)), (6, .int (iI nx))]) rfl dX2_workOutNext_83 hl rfl (by decide) rfl (fun ls hl => ?_)
              refine lv_goto (tgt := 11) X.1 X.2.1 dX2_workOutNext_86 (by decide) ?_
              exact ih_11 gr nx (q + 1) (by omega) (by omega) (by omega) (by rw [← hz]; first | exact (nxl_skip (by omega) (by omega)).symm | exact (nxl_take (by omega) (by omega) (by omega)).symm | exact (nxl_keep (by omega) (by omega) (by omega) (by omega)).symm) _ _ I ls (lv_sub hl [2, 3, 4, 5, 6, 7, 8, 0] rfl)
            · skip
              refine lv_iload X.1 X.2.1 dX2_workOutNext_75 (lv_at hl 0 rfl) ?_
              refine lv_istore (lv' := [(5, .int (iI ((T q) + (ost kd r_ g_ q0 q)))), (8, .int (iI ((T q) + (ost kd r_ g_ q0 q)))), (0, .ref (G.2.2 15)), (1, .ref (G.2.2 (41 + 2 * j))), (2, .int (iI k)), (3, .int (iI q0)), (4, .ref (G.2.2 5)), (6, .int (iI nx)), (7, .int (iI q))]) X.1 X.2.1 dX2_workOutNext_77 hl (by decide) rfl (fun ls hl => ?_)
              refine lv_iload X.1 X.2.1 dX2_workOutNext_79 (lv_at hl 8 rfl) ?_
              refine lv_istore (lv' := [(6, .int (iI q)), (5, .int (iI ((T q) + (ost kd r_ g_ q0 q)))), (8, .int (iI ((T q) + (ost kd r_ g_ q0 q)))), (0, .ref (G.2.2 15)), (1, .ref (G.2.2 (41 + 2 * j))), (2, .int (iI k)), (3, .int (iI q0)), (4, .ref (G.2.2 5)), (7, .int (iI q))]) X.1 X.2.1 dX2_workOutNext_81 hl (by decide) rfl (fun ls hl => ?_)
              refine ri_iinc X (k := 8) (v := (q + 1)) (lv' := [(7, .int (iI (q + 1))), (6, .int (iI q)), (5, .int (iI ((T q) + (ost kd r_ g_ q0 q)))), (8, .int (iI ((T q) + (ost kd r_ g_ q0 q)))), (0, .ref (G.2.2 15)), (1, .ref (G.2.2 (41 + 2 * j))), (2, .int (iI k)), (3, .int (iI q0)), (4, .ref (G.2.2 5))]) rfl dX2_workOutNext_83 hl rfl (by decide) rfl (fun ls hl => ?_)
              refine lv_goto (tgt := 11) X.1 X.2.1 dX2_workOutNext_86 (by decide) ?_
              exact ih_11 ((T q) + (ost kd r_ g_ q0 q)) q (q + 1) (by omega) (by omega) (by omega) (by rw [← hz]; first | exact (nxl_skip (by omega) (by omega)).symm | exact (nxl_take (by omega) (by omega) (by omega)).symm | exact (nxl_keep (by omega) (by omega) (by omega) (by omega)).symm) _ _ I ls (lv_sub hl [4, 5, 6, 7, 8, 2, 1, 0] rfl)
        · skip
          refine lv_goto (tgt := 83) X.1 X.2.1 dX2_workOutNext_36 (by decide) ?_
          refine ri_iinc X (k := 7) (v := (q + 1)) (lv' := [(7, .int (iI (q + 1))), (0, .ref (G.2.2 15)), (1, .ref (G.2.2 (41 + 2 * j))), (2, .int (iI k)), (3, .int (iI q0)), (4, .ref (G.2.2 5)), (5, .int (iI gr)), (6, .int (iI nx))]) rfl dX2_workOutNext_83 hl rfl (by decide) rfl (fun ls hl => ?_)
          refine lv_goto (tgt := 11) X.1 X.2.1 dX2_workOutNext_86 (by decide) ?_
          exact ih_11 gr nx (q + 1) (by omega) (by omega) (by omega) (by rw [← hz]; first | exact (nxl_skip (by omega) (by omega)).symm | exact (nxl_take (by omega) (by omega) (by omega)).symm | exact (nxl_keep (by omega) (by omega) (by omega) (by omega)).symm) _ _ I ls (lv_sub hl [1, 2, 3, 4, 5, 6, 7, 0] rfl)
  exact lp_11 (13) 0 (-1) (q0 + 1) (by omega) (by omega) (by omega) (rfl) _ _ I ls (lv_sub hl [3, 4, 5, 6, 7, 2, 1, 0] rfl)

theorem ok_X2_workOutLetter : yX2_workOutLetter.cls ≠ "java/lang/invoke/MethodHandle" ∧ yX2_workOutLetter.cls ≠ "java/lang/invoke/VarHandle" ∧ (parseMethodDescriptor yX2_workOutLetter.desc).map (fun d => d.parameters.length) = some 4 := ⟨by decide +kernel, by decide +kernel, by decide +kernel⟩
abbrev po_X2_workOutLetter (S : St) (j : Nat) (w : Nat) (k : Int) (n_ : Int) (kd : Int) (bg : Int) (sg : Int → Int) (m_ : Int) (f : Int → Int) (b_ : Int) (r_ : Int) (g_ : Int) (T : Int → Int) : St → Prop := fun S1 => S1.2 = S.2 ∧ (∀ i : Int, 0 ≤ i → i < n_ → S1.1 (30 + k.toNat) i = (rw1 T sg kd bg b_ r_ g_ n_ (f k) (m_ - 1 - k) i).1 ∧ S1.1 (40 + k.toNat) i = (rw1 T sg kd bg b_ r_ g_ n_ (f k) (m_ - 1 - k) i).2) ∧ (∀ (c_ : Nat) (i : Int), ¬ c_ = (30 + k.toNat) → ¬ c_ = (40 + k.toNat) → S1.1 c_ i = S.1 c_ i) ∧ (∀ i : Int, ¬ (0 ≤ i ∧ i < n_) → S1.1 (40 + k.toNat) i = S.1 (40 + k.toNat) i)
abbrev rm_X2_workOutLetter : Room := ({ frames := 3, cells := 0, slots := 0, locals := 63 } : Room)
set_option maxRecDepth 100000 in
set_option maxHeartbeats 4000000 in
theorem k_X2_workOutLetter (l : Launch) (G : Ge) (S : St) (j : Nat) (w : Nat) (k : Int) (n_ : Int) (kd : Int) (bg : Int) (sg : Int → Int) (m_ : Int) (f : Int → Int) (b_ : Int) (r_ : Int) (g_ : Int) (T : Int → Int) (e_n_ : S.1 2 (j : Int) = n_) (e_kd : S.1 3 (j : Int) = kd) (e_bg : S.1 6 (j : Int) = bg) (e_sg : ∀ i : Int, S.1 (20 + j) i = sg i) (e_m_ : S.1 8 (w : Int) = m_) (e_f : ∀ i : Int, S.1 (16 + w) i = f i) (e_b_ : S.1 53 0 = b_) (e_r_ : S.1 54 0 = r_) (e_g_ : S.1 55 0 = g_) (e_T : ∀ i : Int, S.1 (30 + (k + 1).toNat) i = T i) (hj : j < 8) (hn : 0 ≤ n_ ∧ n_ ≤ 12) (hkd : 0 ≤ kd ∧ kd ≤ 3) (hbg : 0 ≤ bg ∧ bg < 2147483648) (hB : 0 ≤ b_ ∧ b_ ≤ 9) (hR : 0 ≤ r_ ∧ r_ ≤ 9) (hG : 0 ≤ g_ ∧ g_ ≤ 9) (hw : w < 4) (hk : 0 ≤ k ∧ k < m_ ∧ m_ ≤ 6) (hsg : ∀ i : Int, 0 ≤ i → i < n_ → 0 ≤ sg i ∧ sg i ≤ 126) (hf : ∀ i : Int, 0 ≤ i → i < m_ → ((97 ≤ f i ∧ f i ≤ 122) ∨ (65 ≤ f i ∧ f i ≤ 90))) (hT : k < m_ - 1 → ∀ i : Int, 0 ≤ i → i < n_ → -1000 ≤ T i ∧ T i ≤ 1000) : Kv (KC G) l yX2_workOutLetter cX2_workOutLetter 6 rm_X2_workOutLetter [.ref (G.2.2 15), .ref (G.2.2 (41 + 2 * j)), .ref (G.2.2 (6 + 2 * w)), .int (iI k), .ref (G.2.2 5)] S (po_X2_workOutLetter S j w k n_ kd bg sg m_ f b_ r_ g_ T) := by
  refine K_start (own := "NameSeeker$Laying") (by decide +kernel) rfl (Nat.le_of_ble_eq_true rfl) ?_
  intro p e s m args below meth c X hr hlk I ls hl
  have hl : lv_has ls 6 [(0, .ref (G.2.2 15)), (1, .ref (G.2.2 (41 + 2 * j))), (2, .ref (G.2.2 (6 + 2 * w))), (3, .int (iI k)), (4, .ref (G.2.2 5))] := hl
  refine ri_const X (v := 0) dX2_workOutLetter_0 ?_
  refine lv_istore (lv' := [(5, .int (iI 0)), (0, .ref (G.2.2 15)), (1, .ref (G.2.2 (41 + 2 * j))), (2, .ref (G.2.2 (6 + 2 * w))), (3, .int (iI k)), (4, .ref (G.2.2 5))]) X.1 X.2.1 dX2_workOutLetter_1 hl (by decide) rfl (fun ls hl => ?_)
  have lp_3 : ∀ (fu_ : Nat) (q : Int) (U : St), (12 - q).toNat < fu_ → ∀ (hq : 0 ≤ q ∧ q ≤ n_) (hU2 : U.2 = S.2) (hrow : ∀ i : Int, 0 ≤ i → i < q → U.1 (30 + k.toNat) i = (rw1 T sg kd bg b_ r_ g_ n_ (f k) (m_ - 1 - k) i).1 ∧ U.1 (40 + k.toNat) i = (rw1 T sg kd bg b_ r_ g_ n_ (f k) (m_ - 1 - k) i).2) (hfr : ∀ (c_ : Nat) (i : Int), ¬ c_ = (30 + k.toNat) → ¬ c_ = (40 + k.toNat) → U.1 c_ i = S.1 c_ i) (hout : ∀ i : Int, ¬ (0 ≤ i ∧ i < n_) → U.1 (40 + k.toNat) i = S.1 (40 + k.toNat) i) (H : Heap) (locs : List Loc), In (KC G) s s.heap H locs U → ∀ ls : Array Slot, lv_has ls 6 [(0, .ref (G.2.2 15)), (1, .ref (G.2.2 (41 + 2 * j))), (2, .ref (G.2.2 (6 + 2 * w))), (3, .int (iI k)), (4, .ref (G.2.2 5)), (5, .int (iI q))] → W p l e rm_X2_workOutLetter s m args below meth c H locs 0 0 (MQ below (QV (KC G) (po_X2_workOutLetter S j w k n_ kd bg sg m_ f b_ r_ g_ T)) args s 0 0 (KC G).2.2.2) (F0 m 3 ls []) := by
    intro fu_
    induction fu_ with
    | zero => intro q U hm; exact absurd hm (by omega)
    | succ fu_ ih_3 =>
      intro q U hm_3 hq hU2 hrow hfr hout H locs I ls hl
      refine lv_iload X.1 X.2.1 dX2_workOutLetter_3 (lv_at hl 5 rfl) ?_
      refine lv_aload_n X.1 X.2.1 dX2_workOutLetter_5 rfl (lv_at hl 1 rfl) ?_
      refine gC_name_size X I (j := j) hj (v := n_) ((hfr 2 (j : Int) (by omega) (by omega)).trans e_n_) tb_67 dX2_workOutLetter_6 ?_
      refine rj_ge (tgt := 97) X (by omega) (by omega) dX2_workOutLetter_9 (by decide) (fun c1 => ?_) (fun c1 => ?_)
      · skip
        exact rt_v X hr hlk I (by exact ⟨hU2, fun i h1 h2 => hrow i h1 (by omega), hfr, hout⟩) dX2_workOutLetter_97
      · skip
        have hsq := hsg q (by omega) (by omega)
        have hfk := hf k (by omega) (by omega)
        refine lv_aload_n X.1 X.2.1 dX2_workOutLetter_12 rfl (lv_at hl 0 rfl) ?_
        refine gC_laying_nexts X I tb_158 dX2_workOutLetter_13 ?_
        refine lv_iload_n X.1 X.2.1 dX2_workOutLetter_16 rfl (lv_at hl 3 rfl) ?_
        refine aC_nextsO X I (by omega) dX2_workOutLetter_17 ?_
        refine lv_iload X.1 X.2.1 dX2_workOutLetter_18 (lv_at hl 5 rfl) ?_
        refine ri_const X (v := (-1)) dX2_workOutLetter_20 ?_
        refine qC_nexts X I (k := k.toNat) (by omega) (by omega) dX2_workOutLetter_21 (fun H locs I => ?_)
        have I : In (KC G) s s.heap H locs ((ua U.1 (40 + k.toNat) q (-1)), U.2) := I
        refine lv_aload_n X.1 X.2.1 dX2_workOutLetter_22 rfl (lv_at hl 1 rfl) ?_
        refine lv_iload X.1 X.2.1 dX2_workOutLetter_23 (lv_at hl 5 rfl) ?_
        refine lv_aload_n X.1 X.2.1 dX2_workOutLetter_25 rfl (lv_at hl 2 rfl) ?_
        refine gC_word_letters X I (w := w) hw tb_138 dX2_workOutLetter_26 ?_
        refine lv_iload_n X.1 X.2.1 dX2_workOutLetter_29 rfl (lv_at hl 3 rfl) ?_
        refine aC_word X I (w := w) hw (v := (f k)) (by (try dsimp only); rw [ua_nc (by omega)]; exact ((hfr (16 + w) k (by omega) (by omega)).trans (e_f k))) (by omega) dX2_workOutLetter_30 ?_
        refine cl_i I (runV (As := [.int (iI q), .int (iI (f k))]) (rest := []) X (k_X4_isAlike l G ((ua U.1 (40 + k.toNat) q (-1)), U.2) (j) q (f k) (sg q) kd (by (try dsimp only); rw [ua_nc (by omega)]; exact ((hfr (20 + j) q (by omega) (by omega)).trans (e_sg q))) (by (try dsimp only); rw [ua_nc (by omega)]; exact ((hfr 3 (j : Int) (by omega) (by omega)).trans e_kd)) hj (by omega) (by omega) (by omega) hkd) (gdC tb_466 (gdC tb_467 (gdC tb_468 (gdC tb_17 (gdC tb_469 gdB))))) ⟨ok_X4_isAlike, ⟨Nat.le_of_ble_eq_true rfl, Nat.le_of_ble_eq_true rfl⟩, rfl, rfl⟩ (PreV.of (C := RX4) (T := TX4) (N := 7) I (atC_name (j := j) hj) rfl) rfl hl.1 rfl (Nat.le_of_ble_eq_true rfl) dX2_workOutLetter_31 ⟨Nat.zero_le _, Nat.zero_le _⟩) (fun r2 S3 H locs q4 I => ?_)
        obtain ⟨e1_, e2_⟩ := q4
        rw [e2_] at I
        rw [e1_]
        clear e1_ e2_
        rcases Decidable.em (alk (sg q) kd (f k)) with b5 | b5
        · rw [bI_t b5]
          refine rz_ne (tgt := 51) X (by omega) dX2_workOutLetter_34 (by decide) (fun _ => ?_) (fun c6 => absurd c6 (by decide))
          refine lv_iload_n X.1 X.2.1 dX2_workOutLetter_51 rfl (lv_at hl 3 rfl) ?_
          refine lv_aload_n X.1 X.2.1 dX2_workOutLetter_52 rfl (lv_at hl 2 rfl) ?_
          refine gC_word_size X I (w := w) hw (v := m_) (by (try dsimp only); rw [ua_nc (by omega)]; exact ((hfr 8 (w : Int) (by omega) (by omega)).trans e_m_)) tb_141 dX2_workOutLetter_53 ?_
          refine ri_const X (v := 1) dX2_workOutLetter_56 ?_
          refine ri_sub X (v := (m_ - 1)) rfl dX2_workOutLetter_57 ?_
          refine rj_ne (tgt := 81) X (by omega) (by omega) dX2_workOutLetter_58 (by decide) (fun c7 => ?_) (fun c7 => ?_)
          · skip
            refine lv_aload_n X.1 X.2.1 dX2_workOutLetter_81 rfl (lv_at hl 0 rfl) ?_
            refine lv_aload_n X.1 X.2.1 dX2_workOutLetter_82 rfl (lv_at hl 1 rfl) ?_
            refine lv_iload_n X.1 X.2.1 dX2_workOutLetter_83 rfl (lv_at hl 3 rfl) ?_
            refine lv_iload X.1 X.2.1 dX2_workOutLetter_84 (lv_at hl 5 rfl) ?_
            refine lv_aload X.1 X.2.1 dX2_workOutLetter_86 (lv_at hl 4 rfl) ?_
            refine cl_v I (runV (As := [.ref (G.2.2 (41 + 2 * j)), .int (iI k), .int (iI q), .ref (G.2.2 5)]) (rest := []) X (k_X2_workOutNext l G ((ua U.1 (40 + k.toNat) q (-1)), U.2) (j) k q n_ kd bg b_ r_ g_ (T) (by (try dsimp only); rw [ua_nc (by omega)]; exact ((hfr 2 (j : Int) (by omega) (by omega)).trans e_n_)) (by (try dsimp only); rw [ua_nc (by omega)]; exact ((hfr 3 (j : Int) (by omega) (by omega)).trans e_kd)) (by (try dsimp only); rw [ua_nc (by omega)]; exact ((hfr 6 (j : Int) (by omega) (by omega)).trans e_bg)) (by (try dsimp only); rw [ua_nc (by omega)]; exact ((hfr 53 0 (by omega) (by omega)).trans e_b_)) (by (try dsimp only); rw [ua_nc (by omega)]; exact ((hfr 54 0 (by omega) (by omega)).trans e_r_)) (by (try dsimp only); rw [ua_nc (by omega)]; exact ((hfr 55 0 (by omega) (by omega)).trans e_g_)) (fun i_ => (by (try dsimp only); rw [ua_nc (by omega)]; exact ((hfr (30 + (k + 1).toNat) i_ (by omega) (by omega)).trans (e_T i_)))) hj hn hkd hbg hB hR hG (by omega) (by omega) (hT (by omega))) (gdC tb_567 (gdC tb_569 (gdC tb_8 (gdC tb_20 (gdC tb_570 gdB))))) ⟨ok_X2_workOutNext, ⟨Nat.le_of_ble_eq_true rfl, Nat.le_of_ble_eq_true rfl⟩, rfl, rfl⟩ (PreV.of (C := RX2) (T := TX2) (N := 4) I (atC_laying) rfl) rfl hl.1 rfl (Nat.le_of_ble_eq_true rfl) dX2_workOutLetter_88 ⟨Nat.zero_le _, Nat.zero_le _⟩) (fun S9 H locs q10 I => ?_)
            rw [q10] at I
            have I : In (KC G) s s.heap H locs ((ua (ua (ua U.1 (40 + k.toNat) q (-1)) (40 + k.toNat) q (nxl (T) (ost kd r_ g_ q) (n_ - (q + 1)).toNat (q + 1) 0 (-1)).2) (30 + k.toNat) q (if (nxl (T) (ost kd r_ g_ q) (n_ - (q + 1)).toNat (q + 1) 0 (-1)).2 = -1 then -4 else opl bg kd b_ q + (nxl (T) (ost kd r_ g_ q) (n_ - (q + 1)).toNat (q + 1) 0 (-1)).1)), U.2) := I
            refine ri_iinc X (k := 5) (v := (q + 1)) (lv' := [(5, .int (iI (q + 1))), (0, .ref (G.2.2 15)), (1, .ref (G.2.2 (41 + 2 * j))), (2, .ref (G.2.2 (6 + 2 * w))), (3, .int (iI k)), (4, .ref (G.2.2 5))]) rfl dX2_workOutLetter_91 hl rfl (by decide) rfl (fun ls hl => ?_)
            refine lv_goto (tgt := 3) X.1 X.2.1 dX2_workOutLetter_94 (by decide) ?_
            exact ih_3 (q + 1) ((ua (ua (ua U.1 (40 + k.toNat) q (-1)) (40 + k.toNat) q (nxl (T) (ost kd r_ g_ q) (n_ - (q + 1)).toNat (q + 1) 0 (-1)).2) (30 + k.toNat) q (if (nxl (T) (ost kd r_ g_ q) (n_ - (q + 1)).toNat (q + 1) 0 (-1)).2 = -1 then -4 else opl bg kd b_ q + (nxl (T) (ost kd r_ g_ q) (n_ - (q + 1)).toNat (q + 1) 0 (-1)).1)), U.2) (by omega) (by omega) (hU2) (fun i h1 h2 => if hi : i = q then (by
        subst hi
        dsimp only
        first | rw [show rw1 T sg kd bg b_ r_ g_ n_ (f k) (m_ - 1 - k) i = (-4, -1) from if_neg (by assumption)] | rw [show rw1 T sg kd bg b_ r_ g_ n_ (f k) (m_ - 1 - k) i = (opl bg kd b_ i, -1) from (if_pos (by assumption)).trans (if_pos (by omega))] | rw [show rw1 T sg kd bg b_ r_ g_ n_ (f k) (m_ - 1 - k) i = ((if (nxl T (ost kd r_ g_ i) (n_ - (i + 1)).toNat (i + 1) 0 (-1)).2 = -1 then -4 else opl bg kd b_ i + (nxl T (ost kd r_ g_ i) (n_ - (i + 1)).toNat (i + 1) 0 (-1)).1), (nxl T (ost kd r_ g_ i) (n_ - (i + 1)).toNat (i + 1) 0 (-1)).2) from (if_pos (by assumption)).trans (if_neg (by omega))]
        refine ⟨?_, ?_⟩ <;> (repeat (first | rw [ua_eq] | rw [ua_nc (by omega)]))) else (by
        dsimp only
        refine ⟨?_, ?_⟩ <;> (repeat (first | rw [ua_ni hi])) <;> first | exact (hrow i h1 (by omega)).1 | exact (hrow i h1 (by omega)).2)) (fun c_ i h1 h2 => by
        dsimp only
        repeat (first | rw [ua_nc h1] | rw [ua_nc h2])
        exact hfr c_ i h1 h2) (fun i h1 => by
        dsimp only
        repeat (first | rw [ua_ni (show ¬ i = q by omega)])
        exact hout i h1) _ _ I ls (lv_sub hl [1, 2, 3, 4, 5, 0] rfl)
          · skip
            refine lv_aload_n X.1 X.2.1 dX2_workOutLetter_61 rfl (lv_at hl 0 rfl) ?_
            refine gC_laying_tails X I tb_157 dX2_workOutLetter_62 ?_
            refine lv_iload_n X.1 X.2.1 dX2_workOutLetter_65 rfl (lv_at hl 3 rfl) ?_
            refine aC_tailsO X I (by omega) dX2_workOutLetter_66 ?_
            refine lv_iload X.1 X.2.1 dX2_workOutLetter_67 (lv_at hl 5 rfl) ?_
            refine lv_aload X.1 X.2.1 dX2_workOutLetter_69 (lv_at hl 4 rfl) ?_
            refine lv_aload_n X.1 X.2.1 dX2_workOutLetter_71 rfl (lv_at hl 1 rfl) ?_
            refine lv_iload X.1 X.2.1 dX2_workOutLetter_72 (lv_at hl 5 rfl) ?_
            refine cl_i I (runV (As := [.ref (G.2.2 (41 + 2 * j)), .int (iI q)]) (rest := [.int (iI q), .ref (G.2.2 (17 + k.toNat))]) X (k_X6_ofPlace l G ((ua U.1 (40 + k.toNat) q (-1)), U.2) (j) q bg kd b_ (by (try dsimp only); rw [ua_nc (by omega)]; exact ((hfr 6 (j : Int) (by omega) (by omega)).trans e_bg)) (by (try dsimp only); rw [ua_nc (by omega)]; exact ((hfr 3 (j : Int) (by omega) (by omega)).trans e_kd)) (by (try dsimp only); rw [ua_nc (by omega)]; exact ((hfr 53 0 (by omega) (by omega)).trans e_b_)) hj (by omega) hkd hbg hB) (gdC tb_563 (gdC tb_564 (gdC tb_565 (gdC tb_18 (gdC tb_566 gdB))))) ⟨ok_X6_ofPlace, ⟨Nat.le_of_ble_eq_true rfl, Nat.le_of_ble_eq_true rfl⟩, rfl, rfl⟩ (PreV.of (C := RX6) (T := TX6) (N := 3) I (atC_scales) rfl) rfl hl.1 rfl (Nat.le_of_ble_eq_true rfl) dX2_workOutLetter_74 ⟨Nat.zero_le _, Nat.zero_le _⟩) (fun r11 S12 H locs q13 I => ?_)
            obtain ⟨e1_, e2_⟩ := q13
            rw [e2_] at I
            rw [e1_]
            clear e1_ e2_
            have t14 := opl_r (bg := bg) (k := kd) (q := q) (b := b_) (by omega)
            refine qC_tails X I (k := k.toNat) (by omega) (by omega) dX2_workOutLetter_77 (fun H locs I => ?_)
            have I : In (KC G) s s.heap H locs ((ua (ua U.1 (40 + k.toNat) q (-1)) (30 + k.toNat) q (opl bg kd b_ q)), U.2) := I
            refine lv_goto (tgt := 91) X.1 X.2.1 dX2_workOutLetter_78 (by decide) ?_
            refine ri_iinc X (k := 5) (v := (q + 1)) (lv' := [(5, .int (iI (q + 1))), (0, .ref (G.2.2 15)), (1, .ref (G.2.2 (41 + 2 * j))), (2, .ref (G.2.2 (6 + 2 * w))), (3, .int (iI k)), (4, .ref (G.2.2 5))]) rfl dX2_workOutLetter_91 hl rfl (by decide) rfl (fun ls hl => ?_)
            refine lv_goto (tgt := 3) X.1 X.2.1 dX2_workOutLetter_94 (by decide) ?_
            exact ih_3 (q + 1) ((ua (ua U.1 (40 + k.toNat) q (-1)) (30 + k.toNat) q (opl bg kd b_ q)), U.2) (by omega) (by omega) (hU2) (fun i h1 h2 => if hi : i = q then (by
        subst hi
        dsimp only
        first | rw [show rw1 T sg kd bg b_ r_ g_ n_ (f k) (m_ - 1 - k) i = (-4, -1) from if_neg (by assumption)] | rw [show rw1 T sg kd bg b_ r_ g_ n_ (f k) (m_ - 1 - k) i = (opl bg kd b_ i, -1) from (if_pos (by assumption)).trans (if_pos (by omega))] | rw [show rw1 T sg kd bg b_ r_ g_ n_ (f k) (m_ - 1 - k) i = ((if (nxl T (ost kd r_ g_ i) (n_ - (i + 1)).toNat (i + 1) 0 (-1)).2 = -1 then -4 else opl bg kd b_ i + (nxl T (ost kd r_ g_ i) (n_ - (i + 1)).toNat (i + 1) 0 (-1)).1), (nxl T (ost kd r_ g_ i) (n_ - (i + 1)).toNat (i + 1) 0 (-1)).2) from (if_pos (by assumption)).trans (if_neg (by omega))]
        refine ⟨?_, ?_⟩ <;> (repeat (first | rw [ua_eq] | rw [ua_nc (by omega)]))) else (by
        dsimp only
        refine ⟨?_, ?_⟩ <;> (repeat (first | rw [ua_ni hi])) <;> first | exact (hrow i h1 (by omega)).1 | exact (hrow i h1 (by omega)).2)) (fun c_ i h1 h2 => by
        dsimp only
        repeat (first | rw [ua_nc h1] | rw [ua_nc h2])
        exact hfr c_ i h1 h2) (fun i h1 => by
        dsimp only
        repeat (first | rw [ua_ni (show ¬ i = q by omega)])
        exact hout i h1) _ _ I ls (lv_sub hl [1, 2, 3, 4, 5, 0] rfl)
        · rw [bI_f b5]
          refine rz_ne (tgt := 51) X (by omega) dX2_workOutLetter_34 (by decide) (fun c15 => absurd c15 (by decide)) (fun _ => ?_)
          refine lv_aload_n X.1 X.2.1 dX2_workOutLetter_37 rfl (lv_at hl 0 rfl) ?_
          refine gC_laying_tails X I tb_157 dX2_workOutLetter_38 ?_
          refine lv_iload_n X.1 X.2.1 dX2_workOutLetter_41 rfl (lv_at hl 3 rfl) ?_
          refine aC_tailsO X I (by omega) dX2_workOutLetter_42 ?_
          refine lv_iload X.1 X.2.1 dX2_workOutLetter_43 (lv_at hl 5 rfl) ?_
          refine ri_push X (v := (-4)) (by decide) dX2_workOutLetter_45 ?_
          refine qC_tails X I (k := k.toNat) (by omega) (by omega) dX2_workOutLetter_47 (fun H locs I => ?_)
          have I : In (KC G) s s.heap H locs ((ua (ua U.1 (40 + k.toNat) q (-1)) (30 + k.toNat) q (-4)), U.2) := I
          refine lv_goto (tgt := 91) X.1 X.2.1 dX2_workOutLetter_48 (by decide) ?_
          refine ri_iinc X (k := 5) (v := (q + 1)) (lv' := [(5, .int (iI (q + 1))), (0, .ref (G.2.2 15)), (1, .ref (G.2.2 (41 + 2 * j))), (2, .ref (G.2.2 (6 + 2 * w))), (3, .int (iI k)), (4, .ref (G.2.2 5))]) rfl dX2_workOutLetter_91 hl rfl (by decide) rfl (fun ls hl => ?_)
          refine lv_goto (tgt := 3) X.1 X.2.1 dX2_workOutLetter_94 (by decide) ?_
          exact ih_3 (q + 1) ((ua (ua U.1 (40 + k.toNat) q (-1)) (30 + k.toNat) q (-4)), U.2) (by omega) (by omega) (hU2) (fun i h1 h2 => if hi : i = q then (by
        subst hi
        dsimp only
        first | rw [show rw1 T sg kd bg b_ r_ g_ n_ (f k) (m_ - 1 - k) i = (-4, -1) from if_neg (by assumption)] | rw [show rw1 T sg kd bg b_ r_ g_ n_ (f k) (m_ - 1 - k) i = (opl bg kd b_ i, -1) from (if_pos (by assumption)).trans (if_pos (by omega))] | rw [show rw1 T sg kd bg b_ r_ g_ n_ (f k) (m_ - 1 - k) i = ((if (nxl T (ost kd r_ g_ i) (n_ - (i + 1)).toNat (i + 1) 0 (-1)).2 = -1 then -4 else opl bg kd b_ i + (nxl T (ost kd r_ g_ i) (n_ - (i + 1)).toNat (i + 1) 0 (-1)).1), (nxl T (ost kd r_ g_ i) (n_ - (i + 1)).toNat (i + 1) 0 (-1)).2) from (if_pos (by assumption)).trans (if_neg (by omega))]
        refine ⟨?_, ?_⟩ <;> (repeat (first | rw [ua_eq] | rw [ua_nc (by omega)]))) else (by
        dsimp only
        refine ⟨?_, ?_⟩ <;> (repeat (first | rw [ua_ni hi])) <;> first | exact (hrow i h1 (by omega)).1 | exact (hrow i h1 (by omega)).2)) (fun c_ i h1 h2 => by
        dsimp only
        repeat (first | rw [ua_nc h1] | rw [ua_nc h2])
        exact hfr c_ i h1 h2) (fun i h1 => by
        dsimp only
        repeat (first | rw [ua_ni (show ¬ i = q by omega)])
        exact hout i h1) _ _ I ls (lv_sub hl [1, 2, 3, 4, 5, 0] rfl)
  exact lp_3 (13) 0 S (by omega) (by omega) (rfl) (fun i h1 h2 => absurd h2 (by omega)) (fun _ _ _ _ => rfl) (fun _ _ => rfl) _ _ I ls (lv_sub hl [1, 2, 3, 4, 5, 0] rfl)
