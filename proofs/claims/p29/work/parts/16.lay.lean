theorem nxl_congr {T T2 c : Int → Int} : ∀ (k : Nat) (q gr nx : Int), (∀ i : Int, q ≤ i → i < q + k → T i = T2 i) → nxl T c k q gr nx = nxl T2 c k q gr nx
  | 0, _, _, _, _ => rfl
  | k + 1, q, gr, nx, h => by
    rw [nxl, nxl, h q (by omega) (by omega)]
    have h2 := fun g x => nxl_congr (c := c) k (q + 1) g x (fun i h3 h4 => h i (by omega) (by omega))
    simp only [h2]
theorem rw1_congr {T T2 sg : Int → Int} {kd bg b r g n x d q : Int} (h : ¬ d = 0 → ∀ i : Int, q < i → i < n → T i = T2 i) : rw1 T sg kd bg b r g n x d q = rw1 T2 sg kd bg b r g n x d q := by
  unfold rw1
  by_cases hd : d = 0
  · rw [if_pos hd, if_pos hd]
  · rw [if_neg hd, if_neg hd]
    by_cases hn : q + 1 ≤ n
    · rw [nxl_congr (c := ost kd r g q) (n - (q + 1)).toNat (q + 1) 0 (-1) (fun i h1 h2 => h hd i (by omega) (by omega))]
    · rw [show (n - (q + 1)).toNat = 0 by omega]; rfl
theorem nxl_mem {T c : Int → Int} : ∀ (k : Nat) (q gr nx : Int), nxl T c k q gr nx = (gr, nx) ∨ (q ≤ (nxl T c k q gr nx).2 ∧ (nxl T c k q gr nx).2 < q + k ∧ ¬ T (nxl T c k q gr nx).2 = -4 ∧ (nxl T c k q gr nx).1 = T (nxl T c k q gr nx).2 + c (nxl T c k q gr nx).2)
  | 0, _, _, _ => Or.inl rfl
  | k + 1, q, gr, nx => by
    rw [nxl]
    by_cases hT : T q = -4
    · rw [if_pos hT]
      rcases nxl_mem (T := T) (c := c) k (q + 1) gr nx with h | ⟨h1, h2, h3, h4⟩
      · exact Or.inl h
      · exact Or.inr ⟨by omega, by omega, h3, h4⟩
    · rw [if_neg hT]
      by_cases h5 : nx = -1 ∨ gr < T q + c q
      · rw [if_pos h5]
        rcases nxl_mem (T := T) (c := c) k (q + 1) (T q + c q) q with h | ⟨h1, h2, h3, h4⟩
        · rw [h]; exact Or.inr ⟨Int.le_refl _, by dsimp only; omega, hT, rfl⟩
        · exact Or.inr ⟨by omega, by omega, h3, h4⟩
      · rw [if_neg h5]
        rcases nxl_mem (T := T) (c := c) k (q + 1) gr nx with h | ⟨h1, h2, h3, h4⟩
        · exact Or.inl h
        · exact Or.inr ⟨by omega, by omega, h3, h4⟩
/-- the row of the letter with so many behind it -/
def tlr (sg f : Int → Int) (kd bg b r g n m : Int) : Nat → Int → Int × Int
  | 0, q => rw1 (fun _ => 0) sg kd bg b r g n (f (m - 1)) 0 q
  | d + 1, q => rw1 (fun x => (tlr sg f kd bg b r g n m d x).1) sg kd bg b r g n (f (m - 2 - d)) (d + 1) q
theorem tlr_b {sg f : Int → Int} {kd bg b r g n m : Int} (hB : 0 ≤ b ∧ b ≤ 9) (hR : 0 ≤ r ∧ r ≤ 9) (hG : 0 ≤ g ∧ g ≤ 9) (hn : 0 ≤ n ∧ n ≤ 12) : ∀ (d : Nat) (q : Int), d ≤ 5 → 0 ≤ q → q < n → -4 - 50 * (d : Int) ≤ (tlr sg f kd bg b r g n m d q).1 ∧ (tlr sg f kd bg b r g n m d q).1 ≤ 68 + 80 * (d : Int) ∧ -1 ≤ (tlr sg f kd bg b r g n m d q).2 ∧ (tlr sg f kd bg b r g n m d q).2 < n
  | 0, q, hd, h0, h1 => by
    have ho := opl_r (bg := bg) (k := kd) (q := q) hB
    rw [tlr]; unfold rw1
    split
    · rw [if_pos rfl]; dsimp only; omega
    · dsimp only; omega
  | d + 1, q, hd, h0, h1 => by
    have ho := opl_r (bg := bg) (k := kd) (q := q) hB
    rw [tlr]; unfold rw1
    split
    · rw [if_neg (by omega)]
      dsimp only
      rcases nxl_mem (T := fun x => (tlr sg f kd bg b r g n m d x).1) (c := ost kd r g q) (n - (q + 1)).toNat (q + 1) 0 (-1) with h | ⟨h2, h3, h4, h5⟩
      · rw [h]; dsimp only; rw [if_pos rfl]; omega
      · generalize nxl (fun x => (tlr sg f kd bg b r g n m d x).1) (ost kd r g q) (n - (q + 1)).toNat (q + 1) 0 (-1) = z at *
        have ih := tlr_b (sg := sg) (f := f) (kd := kd) (bg := bg) (m := m) hB hR hG hn d z.2 (by omega) (by omega) (by omega)
        have hs := ost_r (k := kd) (r := r) (g := g) (q := q) (x := z.2) hR hG (by omega) (by omega)
        try dsimp only at h5
        rw [if_neg (by omega)]
        omega
    · dsimp only; omega
theorem tlr_s {T sg f : Int → Int} {kd bg b r g n m k : Int} (hB : 0 ≤ b ∧ b ≤ 9) (hR : 0 ≤ r ∧ r ≤ 9) (hG : 0 ≤ g ∧ g ≤ 9) (hk : 0 ≤ k ∧ k < m) (h : k < m - 1 → ∀ i : Int, 0 ≤ i → i < n → T i = (tlr sg f kd bg b r g n m (m - 1 - (k + 1)).toNat i).1) (q : Int) (hq : 0 ≤ q := by omega) : rw1 T sg kd bg b r g n (f k) (m - 1 - k) q = tlr sg f kd bg b r g n m (m - 1 - k).toNat q := by
  by_cases hd : k = m - 1
  · subst hd
    rw [show (m - 1 - (m - 1)).toNat = 0 by omega, show m - 1 - (m - 1) = 0 by omega, tlr]
    exact rw1_congr (fun h0 => absurd rfl h0)
  · obtain ⟨d, hdd⟩ : ∃ d : Nat, (m - 1 - k).toNat = d + 1 := ⟨(m - 1 - k).toNat - 1, by omega⟩
    rw [hdd, tlr, show m - 2 - (d : Int) = k by omega, show ((d : Int) + 1) = m - 1 - k by omega]
    refine rw1_congr (fun _ i h1 h2 => ?_)
    rw [h (by omega) i (by omega) h2, show (m - 1 - (k + 1)).toNat = d by omega]
def gbf (T : Int → Int) : Nat → Int → Int → Int → Int × Int
  | 0, _, gr, bf => (gr, bf)
  | k + 1, q, gr, bf => if gr < T q then gbf T k (q + 1) (T q) q else gbf T k (q + 1) gr bf
theorem gbf_take {T : Int → Int} {n q gr bf : Int} (h : q < n) (h2 : gr < T q) : gbf T (n - q).toNat q gr bf = gbf T (n - (q + 1)).toNat (q + 1) (T q) q := by
  rw [show (n - q).toNat = (n - (q + 1)).toNat + 1 by omega, gbf, if_pos h2]
theorem gbf_keep {T : Int → Int} {n q gr bf : Int} (h : q < n) (h2 : ¬ gr < T q) : gbf T (n - q).toNat q gr bf = gbf T (n - (q + 1)).toNat (q + 1) gr bf := by
  rw [show (n - q).toNat = (n - (q + 1)).toNat + 1 by omega, gbf, if_neg h2]
/-- the score; where the first letter is laid best -/
def wor (sg f : Int → Int) (kd bg b r g n m : Int) : Int := if m = 0 then 0 else (gbf (fun x => (tlr sg f kd bg b r g n m (m - 1).toNat x).1) n.toNat 0 (-4) (-1)).1
def wob (sg f : Int → Int) (kd bg b r g n m : Int) : Int := if m = 0 then -1 else (gbf (fun x => (tlr sg f kd bg b r g n m (m - 1).toNat x).1) n.toNat 0 (-4) (-1)).2
def nxi (F : Nat → Int → Int) : Prop := ∀ (c_ : Nat) (q : Int), c_ < 6 → 0 ≤ q → q < 12 → -1 ≤ F (40 + c_) q ∧ F (40 + c_) q < 12
/-- the k-th place of the best way, by the rows of next places -/
def bpw (F : Nat → Int → Int) (bf : Int) : Nat → Int
  | 0 => bf
  | i + 1 => if bpw F bf i = -1 then -1 else F (40 + i) (bpw F bf i)
theorem bpw_s {F : Nat → Int → Int} {bf i : Int} (hi : 0 ≤ i) (h : ¬ bpw F bf i.toNat = -1) : F (40 + i.toNat) (bpw F bf i.toNat) = bpw F bf (i + 1).toNat := by
  rw [show (i + 1).toNat = i.toNat + 1 by omega, bpw, if_neg h]
theorem bpw_r {F : Nat → Int → Int} (h : nxi F) {bf : Int} (hb : -1 ≤ bf ∧ bf < 12) : ∀ i : Nat, i ≤ 6 → -1 ≤ bpw F bf i ∧ bpw F bf i < 12
  | 0, _ => hb
  | i + 1, hi => by
    have ih := bpw_r h hb i (by omega)
    rw [bpw]
    split
    · omega
    · exact h i _ (by omega) (by omega) (by omega)
theorem bpw_k {F : Nat → Int → Int} {bf : Int} {i k : Nat} (h : bpw F bf i = -1) (hk : i ≤ k) : bpw F bf k = -1 := by
  induction k with
  | zero => rw [show i = 0 by omega] at h; exact h
  | succ k ih =>
    rcases Nat.lt_or_ge k i with z | z
    · rw [show i = k + 1 by omega] at h; exact h
    · rw [bpw, if_pos (ih z)]
/-- how many ways the first k letters have in the first q places -/
def cwv (sg f : Int → Int) (kd : Int) : Nat → Nat → Int
  | 0, 0 => 1
  | 0, _ + 1 => 0
  | _ + 1, 0 => 1
  | q + 1, k + 1 => cwv sg f kd q (k + 1) + (if alk (sg q) kd (f k) then cwv sg f kd q k else 0)
theorem cwv_0 {sg f : Int → Int} {kd q : Int} (hq : 0 ≤ q) : cwv sg f kd q.toNat (0 : Int).toNat = cwv sg f kd (q + 1).toNat (0 : Int).toNat := by
  rw [show (q + 1).toNat = q.toNat + 1 by omega]
  show cwv sg f kd q.toNat 0 = cwv sg f kd (q.toNat + 1) 0
  cases q.toNat <;> rfl
theorem cwv_no {sg f : Int → Int} {kd q k : Int} (hq : 0 ≤ q) (hk : 1 ≤ k) (h : ¬ alk (sg q) kd (f (k - 1))) : cwv sg f kd q.toNat k.toNat = cwv sg f kd (q + 1).toNat k.toNat := by
  obtain ⟨i, rfl⟩ : ∃ i : Nat, k = (i : Int) + 1 := ⟨(k - 1).toNat, by omega⟩
  rw [show (q + 1).toNat = q.toNat + 1 by omega, show ((i : Int) + 1).toNat = i + 1 by omega, cwv, show ((q.toNat : Nat) : Int) = q by omega, if_neg (by rw [show (i : Int) = (i : Int) + 1 - 1 by omega]; exact h)]
  omega
theorem cwv_yes {sg f : Int → Int} {kd q k : Int} (hq : 0 ≤ q) (hk : 1 ≤ k) (h : alk (sg q) kd (f (k - 1))) : cwv sg f kd q.toNat k.toNat + cwv sg f kd q.toNat (k - 1).toNat = cwv sg f kd (q + 1).toNat k.toNat := by
  obtain ⟨i, rfl⟩ : ∃ i : Nat, k = (i : Int) + 1 := ⟨(k - 1).toNat, by omega⟩
  rw [show (q + 1).toNat = q.toNat + 1 by omega, show ((i : Int) + 1 - 1).toNat = i by omega, show ((i : Int) + 1).toNat = i + 1 by omega, cwv, show ((q.toNat : Nat) : Int) = q by omega, if_pos (by rw [show (i : Int) = (i : Int) + 1 - 1 by omega]; exact h)]

theorem ok_X2_workOut : yX2_workOut.cls ≠ "java/lang/invoke/MethodHandle" ∧ yX2_workOut.cls ≠ "java/lang/invoke/VarHandle" ∧ (parseMethodDescriptor yX2_workOut.desc).map (fun d => d.parameters.length) = some 3 := ⟨by decide +kernel, by decide +kernel, by decide +kernel⟩
abbrev po_X2_workOut (S : St) (j : Nat) (w : Nat) (n_ : Int) (kd : Int) (bg : Int) (sg : Int → Int) (m_ : Int) (f : Int → Int) (b_ : Int) (r_ : Int) (g_ : Int) : Int → St → Prop := fun r S1 => S1.2 = S.2 ∧ (∀ (c_ : Nat) (i : Int), (c_ < 30 ∨ 46 ≤ c_) → ¬ c_ = 60 → S1.1 c_ i = S.1 c_ i) ∧ r = wor sg f kd bg b_ r_ g_ n_ m_ ∧ S1.1 60 0 = wob sg f kd bg b_ r_ g_ n_ m_ ∧ (∀ k : Int, 0 ≤ k → k < m_ → ∀ i : Int, 0 ≤ i → i < n_ → S1.1 (40 + k.toNat) i = (tlr sg f kd bg b_ r_ g_ n_ m_ (m_ - 1 - k).toNat i).2) ∧ nxi S1.1
abbrev rm_X2_workOut : Room := ({ frames := 4, cells := 0, slots := 0, locals := 88 } : Room)
set_option maxRecDepth 100000 in
set_option maxHeartbeats 4000000 in
theorem k_X2_workOut (l : Launch) (G : Ge) (S : St) (j : Nat) (w : Nat) (n_ : Int) (kd : Int) (bg : Int) (sg : Int → Int) (m_ : Int) (f : Int → Int) (b_ : Int) (r_ : Int) (g_ : Int) (e_n_ : S.1 2 (j : Int) = n_) (e_kd : S.1 3 (j : Int) = kd) (e_bg : S.1 6 (j : Int) = bg) (e_sg : ∀ i : Int, S.1 (20 + j) i = sg i) (e_m_ : S.1 8 (w : Int) = m_) (e_f : ∀ i : Int, S.1 (16 + w) i = f i) (e_b_ : S.1 53 0 = b_) (e_r_ : S.1 54 0 = r_) (e_g_ : S.1 55 0 = g_) (hj : j < 8) (hn : 0 ≤ n_ ∧ n_ ≤ 12) (hkd : 0 ≤ kd ∧ kd ≤ 3) (hbg : 0 ≤ bg ∧ bg < 2147483648) (hB : 0 ≤ b_ ∧ b_ ≤ 9) (hR : 0 ≤ r_ ∧ r_ ≤ 9) (hG : 0 ≤ g_ ∧ g_ ≤ 9) (hw : w < 4) (hm : 0 ≤ m_ ∧ m_ ≤ 6) (hsg : ∀ i : Int, 0 ≤ i → i < n_ → 0 ≤ sg i ∧ sg i ≤ 126) (hf : ∀ i : Int, 0 ≤ i → i < m_ → ((97 ≤ f i ∧ f i ≤ 122) ∨ (65 ≤ f i ∧ f i ≤ 90))) (hNX : nxi S.1) : Ki (KC G) l yX2_workOut cX2_workOut 6 .int rm_X2_workOut [.ref (G.2.2 15), .ref (G.2.2 (41 + 2 * j)), .ref (G.2.2 (6 + 2 * w)), .ref (G.2.2 5)] S (po_X2_workOut S j w n_ kd bg sg m_ f b_ r_ g_) := by
  refine K_start (own := "NameSeeker$Laying") (by decide +kernel) rfl (Nat.le_of_ble_eq_true rfl) ?_
  intro p e s m args below meth c X hr hlk I ls hl
  have hl : lv_has ls 6 [(0, .ref (G.2.2 15)), (1, .ref (G.2.2 (41 + 2 * j))), (2, .ref (G.2.2 (6 + 2 * w))), (3, .ref (G.2.2 5))] := hl
  refine lv_aload_n X.1 X.2.1 dX2_workOut_0 rfl (lv_at hl 0 rfl) ?_
  refine ri_const X (v := (-1)) dX2_workOut_1 ?_
  refine pC_laying_bestFirst X I tb_160 dX2_workOut_2 (fun H locs I => ?_)
  have I : In (KC G) s s.heap H locs ((us S.1 60 (-1)), S.2) := I
  refine lv_aload_n X.1 X.2.1 dX2_workOut_5 rfl (lv_at hl 2 rfl) ?_
  refine gC_word_size X I (w := w) hw (v := m_) (by (try dsimp only); rw [us_nc (by decide)]; exact e_m_) tb_141 dX2_workOut_6 ?_
  refine rz_ne (tgt := 14) X (by omega) dX2_workOut_9 (by decide) (fun c1 => ?_) (fun c1 => ?_)
  · skip
    refine lv_aload_n X.1 X.2.1 dX2_workOut_14 rfl (lv_at hl 2 rfl) ?_
    refine gC_word_size X I (w := w) hw (v := m_) (by (try dsimp only); rw [us_nc (by decide)]; exact e_m_) tb_141 dX2_workOut_15 ?_
    refine ri_const X (v := 1) dX2_workOut_18 ?_
    refine ri_sub X (v := (m_ - 1)) rfl dX2_workOut_19 ?_
    refine lv_istore (lv' := [(4, .int (iI (m_ - 1))), (0, .ref (G.2.2 15)), (1, .ref (G.2.2 (41 + 2 * j))), (2, .ref (G.2.2 (6 + 2 * w))), (3, .ref (G.2.2 5))]) X.1 X.2.1 dX2_workOut_20 hl (by decide) rfl (fun ls hl => ?_)
    have lp_22 : ∀ (fu_ : Nat) (k : Int) (U : Nat → Int → Int), (k + 1).toNat < fu_ → ∀ (hk : -1 ≤ k ∧ k ≤ m_ - 1) (hfr : ∀ (c_ : Nat) (i : Int), (c_ < 30 ∨ 46 ≤ c_) → ¬ c_ = 60 → U c_ i = S.1 c_ i) (h60 : U 60 0 = -1) (hrows : ∀ k2 : Int, k < k2 → k2 < m_ → ∀ i : Int, 0 ≤ i → i < n_ → U (30 + k2.toNat) i = (tlr sg f kd bg b_ r_ g_ n_ m_ (m_ - 1 - k2).toNat i).1 ∧ U (40 + k2.toNat) i = (tlr sg f kd bg b_ r_ g_ n_ m_ (m_ - 1 - k2).toNat i).2) (hnx : nxi U) (H : Heap) (locs : List Loc), In (KC G) s s.heap H locs (U, S.2) → ∀ ls : Array Slot, lv_has ls 6 [(0, .ref (G.2.2 15)), (1, .ref (G.2.2 (41 + 2 * j))), (2, .ref (G.2.2 (6 + 2 * w))), (3, .ref (G.2.2 5)), (4, .int (iI k))] → W p l e rm_X2_workOut s m args below meth c H locs 0 0 (MQ below (QI (KC G) (po_X2_workOut S j w n_ kd bg sg m_ f b_ r_ g_)) args s 0 0 (KC G).2.2.2) (F0 m 22 ls []) := by
      intro fu_
      induction fu_ with
      | zero => intro k U hm; exact absurd hm (by omega)
      | succ fu_ ih_22 =>
        intro k U hm_22 hk hfr h60 hrows hnx H locs I ls hl
        refine lv_iload X.1 X.2.1 dX2_workOut_22 (lv_at hl 4 rfl) ?_
        refine rz_lt (tgt := 42) X (by omega) dX2_workOut_24 (by decide) (fun c2 => ?_) (fun c2 => ?_)
        · skip
          refine ri_push X (v := (-4)) (by decide) dX2_workOut_42 ?_
          refine lv_istore (lv' := [(4, .int (iI (-4))), (0, .ref (G.2.2 15)), (1, .ref (G.2.2 (41 + 2 * j))), (2, .ref (G.2.2 (6 + 2 * w))), (3, .ref (G.2.2 5))]) X.1 X.2.1 dX2_workOut_44 hl (by decide) rfl (fun ls hl => ?_)
          refine ri_const X (v := 0) dX2_workOut_46 ?_
          refine lv_istore (lv' := [(5, .int (iI 0)), (4, .int (iI (-4))), (0, .ref (G.2.2 15)), (1, .ref (G.2.2 (41 + 2 * j))), (2, .ref (G.2.2 (6 + 2 * w))), (3, .ref (G.2.2 5))]) X.1 X.2.1 dX2_workOut_47 hl (by decide) rfl (fun ls hl => ?_)
          have lp_49 : ∀ (fu_ : Nat) (q : Int) (gr : Int) (Y : Nat → Int → Int), (12 - q).toNat < fu_ → ∀ (hq : 0 ≤ q ∧ q ≤ n_) (hgr : -2000 ≤ gr ∧ gr ≤ 2000) (hYf : ∀ (c_ : Nat) (i : Int), ¬ c_ = 60 → Y c_ i = U c_ i) (hgb : gbf (fun x => (tlr sg f kd bg b_ r_ g_ n_ m_ (m_ - 1).toNat x).1) (n_ - q).toNat q gr (Y 60 0) = gbf (fun x => (tlr sg f kd bg b_ r_ g_ n_ m_ (m_ - 1).toNat x).1) n_.toNat 0 (-4) (-1)) (H : Heap) (locs : List Loc), In (KC G) s s.heap H locs (Y, S.2) → ∀ ls : Array Slot, lv_has ls 6 [(0, .ref (G.2.2 15)), (1, .ref (G.2.2 (41 + 2 * j))), (2, .ref (G.2.2 (6 + 2 * w))), (3, .ref (G.2.2 5)), (4, .int (iI gr)), (5, .int (iI q))] → W p l e rm_X2_workOut s m args below meth c H locs 0 0 (MQ below (QI (KC G) (po_X2_workOut S j w n_ kd bg sg m_ f b_ r_ g_)) args s 0 0 (KC G).2.2.2) (F0 m 49 ls []) := by
            intro fu_
            induction fu_ with
            | zero => intro q gr Y hm; exact absurd hm (by omega)
            | succ fu_ ih_49 =>
              intro q gr Y hm_49 hq hgr hYf hgb H locs I ls hl
              refine lv_iload X.1 X.2.1 dX2_workOut_49 (lv_at hl 5 rfl) ?_
              refine lv_aload_n X.1 X.2.1 dX2_workOut_51 rfl (lv_at hl 1 rfl) ?_
              refine gC_name_size X I (j := j) hj (v := n_) ((hYf 2 (j : Int) (by decide)).trans ((hfr 2 (j : Int) (by omega) (by omega)).trans e_n_)) tb_67 dX2_workOut_52 ?_
              refine rj_ge (tgt := 95) X (by omega) (by omega) dX2_workOut_55 (by decide) (fun c3 => ?_) (fun c3 => ?_)
              · skip
                have hq2 : q = n_ := by omega
                subst hq2
                rw [show (q - q).toNat = 0 by omega] at hgb
                refine lv_iload X.1 X.2.1 dX2_workOut_95 (lv_at hl 4 rfl) ?_
                exact rt_i X hr hlk I rfl (by exact ⟨rfl, fun c_ i h1 h2 => (hYf c_ i h2).trans (hfr c_ i h1 h2), by unfold wor; rw [if_neg (by omega), ← hgb]; rfl, by unfold wob; rw [if_neg (by omega), ← hgb]; rfl, fun k2 h1 h2 i h3 h4 => by show Y _ i = _; rw [hYf _ i (by omega)]; exact (hrows k2 (by omega) h2 i h3 h4).2, fun c_ x h1 h2 h3 => by show -1 ≤ Y _ x ∧ Y _ x < 12; rw [hYf _ x (by omega)]; exact hnx c_ x h1 h2 h3⟩) dX2_workOut_97
              · skip
                have hU0 := (hrows 0 (by omega) (by omega) q (by omega) (by omega)).1
                rw [show (30 + (0 : Int).toNat) = 30 + 0 from rfl, show (m_ - 1 - 0) = m_ - 1 by omega] at hU0
                have hU1 := tlr_b hB hR hG hn (sg := sg) (f := f) (kd := kd) (bg := bg) (m := m_) (m_ - 1).toNat q (by omega) (by omega) (by omega)
                refine lv_aload_n X.1 X.2.1 dX2_workOut_58 rfl (lv_at hl 0 rfl) ?_
                refine gC_laying_tails X I tb_157 dX2_workOut_59 ?_
                refine ri_const X (v := 0) dX2_workOut_62 ?_
                refine aC_tailsO X I (by omega) dX2_workOut_63 ?_
                refine lv_iload X.1 X.2.1 dX2_workOut_64 (lv_at hl 5 rfl) ?_
                refine aC_tails X I (k := 0) (by omega) (v := (U (30 + 0) q)) (hYf (30 + 0) q (by omega)) (by omega) dX2_workOut_66 ?_
                refine lv_iload X.1 X.2.1 dX2_workOut_67 (lv_at hl 4 rfl) ?_
                refine rj_le (tgt := 89) X (by omega) (by omega) dX2_workOut_69 (by decide) (fun c4 => ?_) (fun c4 => ?_)
                · skip
                  refine ri_iinc X (k := 5) (v := (q + 1)) (lv' := [(5, .int (iI (q + 1))), (0, .ref (G.2.2 15)), (1, .ref (G.2.2 (41 + 2 * j))), (2, .ref (G.2.2 (6 + 2 * w))), (3, .ref (G.2.2 5)), (4, .int (iI gr))]) rfl dX2_workOut_89 hl rfl (by decide) rfl (fun ls hl => ?_)
                  refine lv_goto (tgt := 49) X.1 X.2.1 dX2_workOut_92 (by decide) ?_
                  exact ih_49 (q + 1) gr Y (by omega) (by omega) (by omega) (fun c_ i h => by first | exact hYf c_ i h | (rw [us_nc h]; exact hYf c_ i h)) (by rw [← hgb]; first | exact (gbf_keep (by omega) (by (try dsimp only); omega)).symm | (rw [us_eq, hU0]; exact (gbf_take (by omega) (by (try dsimp only); omega)).symm)) _ _ I ls (lv_sub hl [1, 2, 3, 4, 5, 0] rfl)
                · skip
                  refine lv_aload_n X.1 X.2.1 dX2_workOut_72 rfl (lv_at hl 0 rfl) ?_
                  refine gC_laying_tails X I tb_157 dX2_workOut_73 ?_
                  refine ri_const X (v := 0) dX2_workOut_76 ?_
                  refine aC_tailsO X I (by omega) dX2_workOut_77 ?_
                  refine lv_iload X.1 X.2.1 dX2_workOut_78 (lv_at hl 5 rfl) ?_
                  refine aC_tails X I (k := 0) (by omega) (v := (U (30 + 0) q)) (hYf (30 + 0) q (by omega)) (by omega) dX2_workOut_80 ?_
                  refine lv_istore (lv' := [(4, .int (iI (U (30 + 0) q))), (0, .ref (G.2.2 15)), (1, .ref (G.2.2 (41 + 2 * j))), (2, .ref (G.2.2 (6 + 2 * w))), (3, .ref (G.2.2 5)), (5, .int (iI q))]) X.1 X.2.1 dX2_workOut_81 hl (by decide) rfl (fun ls hl => ?_)
                  refine lv_aload_n X.1 X.2.1 dX2_workOut_83 rfl (lv_at hl 1 rfl) ?_
                  refine lv_iload X.1 X.2.1 dX2_workOut_84 (lv_at hl 5 rfl) ?_
                  refine pC_laying_bestFirst X I tb_160 dX2_workOut_86 (fun H locs I => ?_)
                  have I : In (KC G) s s.heap H locs ((us Y 60 q), S.2) := I
                  refine ri_iinc X (k := 5) (v := (q + 1)) (lv' := [(5, .int (iI (q + 1))), (4, .int (iI (U (30 + 0) q))), (0, .ref (G.2.2 15)), (1, .ref (G.2.2 (41 + 2 * j))), (2, .ref (G.2.2 (6 + 2 * w))), (3, .ref (G.2.2 5))]) rfl dX2_workOut_89 hl rfl (by decide) rfl (fun ls hl => ?_)
                  refine lv_goto (tgt := 49) X.1 X.2.1 dX2_workOut_92 (by decide) ?_
                  exact ih_49 (q + 1) (U (30 + 0) q) (us Y 60 q) (by omega) (by omega) (by omega) (fun c_ i h => by first | exact hYf c_ i h | (rw [us_nc h]; exact hYf c_ i h)) (by rw [← hgb]; first | exact (gbf_keep (by omega) (by (try dsimp only); omega)).symm | (rw [us_eq, hU0]; exact (gbf_take (by omega) (by (try dsimp only); omega)).symm)) _ _ I ls (lv_sub hl [2, 3, 4, 5, 1, 0] rfl)
          exact lp_49 (13) 0 (-4) U (by omega) (by omega) (by omega) (fun _ _ _ => rfl) (by rw [h60, show n_ - 0 = n_ by omega]) _ _ I ls (lv_sub hl [2, 3, 4, 5, 1, 0] rfl)
        · skip
          refine lv_aload_n X.1 X.2.1 dX2_workOut_27 rfl (lv_at hl 0 rfl) ?_
          refine lv_aload_n X.1 X.2.1 dX2_workOut_28 rfl (lv_at hl 1 rfl) ?_
          refine lv_aload_n X.1 X.2.1 dX2_workOut_29 rfl (lv_at hl 2 rfl) ?_
          refine lv_iload X.1 X.2.1 dX2_workOut_30 (lv_at hl 4 rfl) ?_
          refine lv_aload_n X.1 X.2.1 dX2_workOut_32 rfl (lv_at hl 3 rfl) ?_
          refine cl_v I (runV (As := [.ref (G.2.2 (41 + 2 * j)), .ref (G.2.2 (6 + 2 * w)), .int (iI k), .ref (G.2.2 5)]) (rest := []) X (k_X2_workOutLetter l G (U, S.2) (j) (w) k n_ kd bg (sg) m_ (f) b_ r_ g_ (U (30 + (k + 1).toNat)) ((hfr 2 (j : Int) (by omega) (by omega)).trans e_n_) ((hfr 3 (j : Int) (by omega) (by omega)).trans e_kd) ((hfr 6 (j : Int) (by omega) (by omega)).trans e_bg) (fun i_ => ((hfr (20 + j) i_ (by omega) (by omega)).trans (e_sg i_))) ((hfr 8 (w : Int) (by omega) (by omega)).trans e_m_) (fun i_ => ((hfr (16 + w) i_ (by omega) (by omega)).trans (e_f i_))) ((hfr 53 0 (by omega) (by omega)).trans e_b_) ((hfr 54 0 (by omega) (by omega)).trans e_r_) ((hfr 55 0 (by omega) (by omega)).trans e_g_) (fun i_ => rfl) hj hn hkd hbg hB hR hG hw (by omega) hsg hf (fun h i h1 h2 => by have e_ := (hrows (k + 1) (by omega) (by omega) i h1 h2).1; have b_1 := tlr_b hB hR hG hn (sg := sg) (f := f) (kd := kd) (bg := bg) (m := m_) (m_ - 1 - (k + 1)).toNat i (by omega) h1 h2; omega)) (gdC tb_559 (gdC tb_561 (gdC tb_7 (gdC tb_20 (gdC tb_562 gdB))))) ⟨ok_X2_workOutLetter, ⟨Nat.le_of_ble_eq_true rfl, Nat.le_of_ble_eq_true rfl⟩, rfl, rfl⟩ (PreV.of (C := RX2) (T := TX2) (N := 4) I (atC_laying) rfl) rfl hl.1 rfl (Nat.le_of_ble_eq_true rfl) dX2_workOut_33 ⟨Nat.zero_le _, Nat.zero_le _⟩) (fun V H locs q6 I => ?_)
          obtain ⟨hA2, hAr, hAf, hAo⟩ := q6
          obtain ⟨V1, V2⟩ := V
          dsimp only at hA2 hAr hAf hAo
          subst hA2
          refine ri_iinc X (k := 4) (v := (k + (-1))) (lv' := [(4, .int (iI (k + (-1)))), (0, .ref (G.2.2 15)), (1, .ref (G.2.2 (41 + 2 * j))), (2, .ref (G.2.2 (6 + 2 * w))), (3, .ref (G.2.2 5))]) rfl dX2_workOut_36 hl rfl (by decide) rfl (fun ls hl => ?_)
          refine lv_goto (tgt := 22) X.1 X.2.1 dX2_workOut_39 (by decide) ?_
          exact ih_22 (k + (-1)) V1 (by omega) (by omega) (fun c_ i h1 h2 => (hAf c_ i (by omega) (by omega)).trans (hfr c_ i h1 h2)) ((hAf 60 0 (by omega) (by omega)).trans h60) (fun k2 h1 h2 i h3 h4 => if hk2 : k2 = k then (by
        subst hk2
        have e_ := tlr_s hB hR hG (sg := sg) (f := f) (kd := kd) (bg := bg) (n := n_) (m := m_) (T := U (30 + (k2 + 1).toNat)) (k := k2) ⟨by omega, h2⟩ (fun q i h5 h6 => (hrows (k2 + 1) (by omega) (by omega) i h5 h6).1) i
        rw [← e_]; exact hAr i h3 h4) else (by
        rw [hAf _ i (by omega) (by omega), hAf _ i (by omega) (by omega)]; exact hrows k2 (by omega) h2 i h3 h4)) (fun c_ q h1 h2 h3 => if hc : c_ = k.toNat then (if hq : q < n_ then (by
        subst hc
        have e_ := tlr_s hB hR hG (sg := sg) (f := f) (kd := kd) (bg := bg) (n := n_) (m := m_) (T := U (30 + (k + 1).toNat)) (k := k) ⟨by omega, by omega⟩ (fun q i h5 h6 => (hrows (k + 1) (by omega) (by omega) i h5 h6).1) q
        have b_1 := tlr_b hB hR hG hn (sg := sg) (f := f) (kd := kd) (bg := bg) (m := m_) (m_ - 1 - k).toNat q (by omega) h2 hq
        rw [(hAr q h2 hq).2, e_]; omega) else (by subst hc; rw [hAo q (by omega)]; exact hnx _ q h1 h2 h3)) else (by rw [hAf _ q (by omega) (by omega)]; exact hnx _ q h1 h2 h3)) _ _ I ls (lv_sub hl [1, 2, 3, 4, 0] rfl)
    exact lp_22 (8) (m_ - 1) (us S.1 60 (-1)) (by omega) (by omega) (fun c_ i h1 h2 => us_nc h2) (us_eq) (fun k2 h1 h2 => absurd h1 (by omega)) (fun c_ q h1 h2 h3 => by rw [us_nc (by omega)]; exact hNX c_ q h1 h2 h3) _ _ I ls (lv_sub hl [1, 2, 3, 4, 0] rfl)
  · skip
    refine ri_const X (v := 0) dX2_workOut_12 ?_
    exact rt_i X hr hlk I rfl (by exact ⟨rfl, fun c_ i h1 h2 => us_nc h2, by unfold wor; rw [if_pos (by assumption)], by show us S.1 60 (-1) 60 0 = _; unfold wob; rw [if_pos (by assumption)]; exact us_eq, fun k h1 h2 => absurd h2 (by omega), fun c_ x h1 h2 h3 => by show -1 ≤ us S.1 60 (-1) _ x ∧ us S.1 60 (-1) _ x < 12; rw [us_nc (by omega)]; exact hNX c_ x h1 h2 h3⟩) dX2_workOut_13

theorem ok_X2_bestPlace : yX2_bestPlace.cls ≠ "java/lang/invoke/MethodHandle" ∧ yX2_bestPlace.cls ≠ "java/lang/invoke/VarHandle" ∧ (parseMethodDescriptor yX2_bestPlace.desc).map (fun d => d.parameters.length) = some 1 := ⟨by decide +kernel, by decide +kernel, by decide +kernel⟩
abbrev po_X2_bestPlace (S : St)  (k : Int) (bf : Int) : Int → St → Prop := fun r S1 => r = (if bpw S.1 bf k.toNat = -1 then -4 else bpw S.1 bf k.toNat) ∧ S1 = S
abbrev rm_X2_bestPlace : Room := ({ frames := 0, cells := 0, slots := 0, locals := 0 } : Room)
set_option maxRecDepth 100000 in
set_option maxHeartbeats 4000000 in
theorem k_X2_bestPlace (l : Launch) (G : Ge) (S : St)  (k : Int) (bf : Int) (e_bf : S.1 60 0 = bf) (hk : 0 ≤ k ∧ k ≤ 6) (hbf : -1 ≤ bf ∧ bf < 12) (hNX : nxi S.1) : Ki (KC G) l yX2_bestPlace cX2_bestPlace 4 .int rm_X2_bestPlace [.ref (G.2.2 15), .int (iI k)] S (po_X2_bestPlace S k bf) := by
  refine K_start (own := "NameSeeker$Laying") (by decide +kernel) rfl (Nat.le_of_ble_eq_true rfl) ?_
  intro p e s m args below meth c X hr hlk I ls hl
  have hl : lv_has ls 4 [(0, .ref (G.2.2 15)), (1, .int (iI k))] := hl
  refine lv_aload_n X.1 X.2.1 dX2_bestPlace_0 rfl (lv_at hl 0 rfl) ?_
  refine gC_laying_bestFirst X I (v := bf) e_bf tb_160 dX2_bestPlace_1 ?_
  refine lv_istore_n (lv' := [(2, .int (iI bf)), (0, .ref (G.2.2 15)), (1, .int (iI k))]) X.1 X.2.1 dX2_bestPlace_4 rfl hl (by decide) rfl (fun ls hl => ?_)
  refine ri_const X (v := 0) dX2_bestPlace_5 ?_
  refine lv_istore_n (lv' := [(3, .int (iI 0)), (2, .int (iI bf)), (0, .ref (G.2.2 15)), (1, .int (iI k))]) X.1 X.2.1 dX2_bestPlace_6 rfl hl (by decide) rfl (fun ls hl => ?_)
  have lp_7 : ∀ (fu_ : Nat) (i : Int), (6 - i).toNat < fu_ → ∀ (hi : 0 ≤ i ∧ i ≤ k) (H : Heap) (locs : List Loc), In (KC G) s s.heap H locs S → ∀ ls : Array Slot, lv_has ls 4 [(0, .ref (G.2.2 15)), (1, .int (iI k)), (2, .int (iI (bpw S.1 bf i.toNat))), (3, .int (iI i))] → W p l e rm_X2_bestPlace s m args below meth c H locs 0 0 (MQ below (QI (KC G) (po_X2_bestPlace S k bf)) args s 0 0 (KC G).2.2.2) (F0 m 7 ls []) := by
    intro fu_
    induction fu_ with
    | zero => intro i hm; exact absurd hm (by omega)
    | succ fu_ ih_7 =>
      intro i hm_7 hi H locs I ls hl
      have hbp := bpw_r hNX hbf i.toNat (by omega)
      refine lv_iload_n X.1 X.2.1 dX2_bestPlace_7 rfl (lv_at hl 3 rfl) ?_
      refine lv_iload_n X.1 X.2.1 dX2_bestPlace_8 rfl (lv_at hl 1 rfl) ?_
      refine rj_ge (tgt := 38) X (by omega) (by omega) dX2_bestPlace_9 (by decide) (fun c1 => ?_) (fun c1 => ?_)
      · skip
        have hend : bpw S.1 bf k.toNat = bpw S.1 bf i.toNat := by
          first | rw [show k = i by omega] | (have z_ : bpw S.1 bf i.toNat = -1 := (by first | assumption | omega); rw [z_]; exact bpw_k z_ (by omega))
        refine lv_iload_n X.1 X.2.1 dX2_bestPlace_38 rfl (lv_at hl 2 rfl) ?_
        refine ri_const X (v := (-1)) dX2_bestPlace_39 ?_
        refine rj_ne (tgt := 48) X (by omega) (by omega) dX2_bestPlace_40 (by decide) (fun c2 => ?_) (fun c2 => ?_)
        · skip
          refine lv_iload_n X.1 X.2.1 dX2_bestPlace_48 rfl (lv_at hl 2 rfl) ?_
          exact rt_i X hr hlk I rfl (by first | (refine ⟨?_, rfl⟩; (rw [hend]; first | rw [if_pos (by omega)] | rw [if_neg (by omega)]); done) | (exfalso; omega)) dX2_bestPlace_49
        · skip
          refine ri_push X (v := (-4)) (by decide) dX2_bestPlace_43 ?_
          refine lv_goto (tgt := 49) X.1 X.2.1 dX2_bestPlace_45 (by decide) ?_
          exact rt_i X hr hlk I rfl (by first | (refine ⟨?_, rfl⟩; (rw [hend]; first | rw [if_pos (by omega)] | rw [if_neg (by omega)]); done) | (exfalso; omega)) dX2_bestPlace_49
      · skip
        refine lv_iload_n X.1 X.2.1 dX2_bestPlace_12 rfl (lv_at hl 3 rfl) ?_
        refine ri_push X (v := 6) (by decide) dX2_bestPlace_13 ?_
        refine rj_ge (tgt := 38) X (by omega) (by omega) dX2_bestPlace_15 (by decide) (fun c3 => ?_) (fun c3 => ?_)
        · skip
          have hend : bpw S.1 bf k.toNat = bpw S.1 bf i.toNat := by
            first | rw [show k = i by omega] | (have z_ : bpw S.1 bf i.toNat = -1 := (by first | assumption | omega); rw [z_]; exact bpw_k z_ (by omega))
          refine lv_iload_n X.1 X.2.1 dX2_bestPlace_38 rfl (lv_at hl 2 rfl) ?_
          refine ri_const X (v := (-1)) dX2_bestPlace_39 ?_
          refine rj_ne (tgt := 48) X (by omega) (by omega) dX2_bestPlace_40 (by decide) (fun c4 => ?_) (fun c4 => ?_)
          · skip
            refine lv_iload_n X.1 X.2.1 dX2_bestPlace_48 rfl (lv_at hl 2 rfl) ?_
            exact rt_i X hr hlk I rfl (by first | (refine ⟨?_, rfl⟩; (rw [hend]; first | rw [if_pos (by omega)] | rw [if_neg (by omega)]); done) | (exfalso; omega)) dX2_bestPlace_49
          · skip
            refine ri_push X (v := (-4)) (by decide) dX2_bestPlace_43 ?_
            refine lv_goto (tgt := 49) X.1 X.2.1 dX2_bestPlace_45 (by decide) ?_
            exact rt_i X hr hlk I rfl (by first | (refine ⟨?_, rfl⟩; (rw [hend]; first | rw [if_pos (by omega)] | rw [if_neg (by omega)]); done) | (exfalso; omega)) dX2_bestPlace_49
        · skip
          refine lv_iload_n X.1 X.2.1 dX2_bestPlace_18 rfl (lv_at hl 2 rfl) ?_
          refine ri_const X (v := (-1)) dX2_bestPlace_19 ?_
          refine rj_eq (tgt := 38) X (by omega) (by omega) dX2_bestPlace_20 (by decide) (fun c5 => ?_) (fun c5 => ?_)
          · skip
            have hend : bpw S.1 bf k.toNat = bpw S.1 bf i.toNat := by
              first | rw [show k = i by omega] | (have z_ : bpw S.1 bf i.toNat = -1 := (by first | assumption | omega); rw [z_]; exact bpw_k z_ (by omega))
            refine lv_iload_n X.1 X.2.1 dX2_bestPlace_38 rfl (lv_at hl 2 rfl) ?_
            refine ri_const X (v := (-1)) dX2_bestPlace_39 ?_
            refine rj_ne (tgt := 48) X (by omega) (by omega) dX2_bestPlace_40 (by decide) (fun c6 => ?_) (fun c6 => ?_)
            · skip
              refine lv_iload_n X.1 X.2.1 dX2_bestPlace_48 rfl (lv_at hl 2 rfl) ?_
              exact rt_i X hr hlk I rfl (by first | (refine ⟨?_, rfl⟩; (rw [hend]; first | rw [if_pos (by omega)] | rw [if_neg (by omega)]); done) | (exfalso; omega)) dX2_bestPlace_49
            · skip
              refine ri_push X (v := (-4)) (by decide) dX2_bestPlace_43 ?_
              refine lv_goto (tgt := 49) X.1 X.2.1 dX2_bestPlace_45 (by decide) ?_
              exact rt_i X hr hlk I rfl (by first | (refine ⟨?_, rfl⟩; (rw [hend]; first | rw [if_pos (by omega)] | rw [if_neg (by omega)]); done) | (exfalso; omega)) dX2_bestPlace_49
          · skip
            refine lv_aload_n X.1 X.2.1 dX2_bestPlace_23 rfl (lv_at hl 0 rfl) ?_
            refine gC_laying_nexts X I tb_158 dX2_bestPlace_24 ?_
            refine lv_iload_n X.1 X.2.1 dX2_bestPlace_27 rfl (lv_at hl 3 rfl) ?_
            refine aC_nextsO X I (by omega) dX2_bestPlace_28 ?_
            refine lv_iload_n X.1 X.2.1 dX2_bestPlace_29 rfl (lv_at hl 2 rfl) ?_
            refine aC_nexts X I (k := i.toNat) (by omega) (v := (S.1 (40 + i.toNat) (bpw S.1 bf i.toNat))) rfl (by omega) dX2_bestPlace_30 ?_
            refine lv_istore_n (lv' := [(2, .int (iI (S.1 (40 + i.toNat) (bpw S.1 bf i.toNat)))), (0, .ref (G.2.2 15)), (1, .int (iI k)), (3, .int (iI i))]) X.1 X.2.1 dX2_bestPlace_31 rfl hl (by decide) rfl (fun ls hl => ?_)
            refine ri_iinc X (k := 3) (v := (i + 1)) (lv' := [(3, .int (iI (i + 1))), (2, .int (iI (S.1 (40 + i.toNat) (bpw S.1 bf i.toNat)))), (0, .ref (G.2.2 15)), (1, .int (iI k))]) rfl dX2_bestPlace_32 hl rfl (by decide) rfl (fun ls hl => ?_)
            refine lv_goto (tgt := 7) X.1 X.2.1 dX2_bestPlace_35 (by decide) ?_
            have hl : lv_has ls 4 [(3, .int (iI (i + 1))), (2, .int (iI (bpw S.1 bf (i + 1).toNat))), (0, .ref (G.2.2 15)), (1, .int (iI k))] := by
              have e_ : (S.1 (40 + i.toNat) (bpw S.1 bf i.toNat)) = (bpw S.1 bf (i + 1).toNat) := bpw_s (by omega) (by omega)
              rw [← e_]; exact hl
            exact ih_7 (i + 1) (by omega) (by omega) _ _ I ls (lv_sub hl [2, 3, 1, 0] rfl)
  have hl : lv_has ls 4 [(3, .int (iI 0)), (2, .int (iI (bpw S.1 bf (0 : Int).toNat))), (0, .ref (G.2.2 15)), (1, .int (iI k))] := by
    have e_ : bf = (bpw S.1 bf (0 : Int).toNat) := rfl
    rw [← e_]; exact hl
  exact lp_7 (7) 0 (by omega) (by omega) _ _ I ls (lv_sub hl [2, 3, 1, 0] rfl)

theorem ok_X2_countWays : yX2_countWays.cls ≠ "java/lang/invoke/MethodHandle" ∧ yX2_countWays.cls ≠ "java/lang/invoke/VarHandle" ∧ (parseMethodDescriptor yX2_countWays.desc).map (fun d => d.parameters.length) = some 2 := ⟨by decide +kernel, by decide +kernel, by decide +kernel⟩
abbrev po_X2_countWays (S : St) (j : Nat) (w : Nat) (n_ : Int) (kd : Int) (sg : Int → Int) (m_ : Int) (f : Int → Int) : Int → St → Prop := fun r S1 => S1.2 = S.2 ∧ (∀ (c_ : Nat) (i : Int), ¬ c_ = 9 → S1.1 c_ i = S.1 c_ i) ∧ r = cwv sg f kd n_.toNat m_.toNat
abbrev rm_X2_countWays : Room := ({ frames := 3, cells := 0, slots := 0, locals := 63 } : Room)
set_option maxRecDepth 100000 in
set_option maxHeartbeats 4000000 in
theorem k_X2_countWays (l : Launch) (G : Ge) (S : St) (j : Nat) (w : Nat) (n_ : Int) (kd : Int) (sg : Int → Int) (m_ : Int) (f : Int → Int) (e_n_ : S.1 2 (j : Int) = n_) (e_kd : S.1 3 (j : Int) = kd) (e_sg : ∀ i : Int, S.1 (20 + j) i = sg i) (e_m_ : S.1 8 (w : Int) = m_) (e_f : ∀ i : Int, S.1 (16 + w) i = f i) (hj : j < 8) (hn : 0 ≤ n_ ∧ n_ ≤ 12) (hkd : 0 ≤ kd ∧ kd ≤ 3) (hw : w < 4) (hm : 0 ≤ m_ ∧ m_ ≤ 6) (hsg : ∀ i : Int, 0 ≤ i → i < n_ → 0 ≤ sg i ∧ sg i ≤ 126) (hf : ∀ i : Int, 0 ≤ i → i < m_ → ((97 ≤ f i ∧ f i ≤ 122) ∨ (65 ≤ f i ∧ f i ≤ 90))) : Ki (KC G) l yX2_countWays cX2_countWays 5 .int rm_X2_countWays [.ref (G.2.2 15), .ref (G.2.2 (41 + 2 * j)), .ref (G.2.2 (6 + 2 * w))] S (po_X2_countWays S j w n_ kd sg m_ f) := by
  refine K_start (own := "NameSeeker$Laying") (by decide +kernel) rfl (Nat.le_of_ble_eq_true rfl) ?_
  intro p e s m args below meth c X hr hlk I ls hl
  have hl : lv_has ls 5 [(0, .ref (G.2.2 15)), (1, .ref (G.2.2 (41 + 2 * j))), (2, .ref (G.2.2 (6 + 2 * w)))] := hl
  refine lv_aload_n X.1 X.2.1 dX2_countWays_0 rfl (lv_at hl 0 rfl) ?_
  refine gC_laying_counts X I tb_159 dX2_countWays_1 ?_
  refine ri_const X (v := 0) dX2_countWays_4 ?_
  refine ri_const X (v := 1) dX2_countWays_5 ?_
  refine qC_counts X I (by omega) dX2_countWays_6 (fun H locs I => ?_)
  have I : In (KC G) s s.heap H locs ((ua S.1 9 0 1), S.2) := I
  refine ri_const X (v := 1) dX2_countWays_7 ?_
  refine lv_istore_n (lv' := [(3, .int (iI 1)), (0, .ref (G.2.2 15)), (1, .ref (G.2.2 (41 + 2 * j))), (2, .ref (G.2.2 (6 + 2 * w)))]) X.1 X.2.1 dX2_countWays_8 rfl hl (by decide) rfl (fun ls hl => ?_)
  have lp_9 : ∀ (fu_ : Nat) (k : Int) (U : Nat → Int → Int), (7 - k).toNat < fu_ → ∀ (hk : 1 ≤ k ∧ k ≤ m_ + 1) (hfr : ∀ (c_ : Nat) (i : Int), ¬ c_ = 9 → U c_ i = S.1 c_ i) (hc0 : ∀ i : Int, 0 ≤ i → i < k → U 9 i = (cwv sg f kd 0 i.toNat)) (H : Heap) (locs : List Loc), In (KC G) s s.heap H locs (U, S.2) → ∀ ls : Array Slot, lv_has ls 5 [(0, .ref (G.2.2 15)), (1, .ref (G.2.2 (41 + 2 * j))), (2, .ref (G.2.2 (6 + 2 * w))), (3, .int (iI k))] → W p l e rm_X2_countWays s m args below meth c H locs 0 0 (MQ below (QI (KC G) (po_X2_countWays S j w n_ kd sg m_ f)) args s 0 0 (KC G).2.2.2) (F0 m 9 ls []) := by
    intro fu_
    induction fu_ with
    | zero => intro k U hm; exact absurd hm (by omega)
    | succ fu_ ih_9 =>
      intro k U hm_9 hk hfr hc0 H locs I ls hl
      refine lv_iload_n X.1 X.2.1 dX2_countWays_9 rfl (lv_at hl 3 rfl) ?_
      refine lv_aload_n X.1 X.2.1 dX2_countWays_10 rfl (lv_at hl 2 rfl) ?_
      refine gC_word_size X I (w := w) hw (v := m_) ((hfr 8 (w : Int) (by decide)).trans e_m_) tb_141 dX2_countWays_11 ?_
      refine rj_gt (tgt := 30) X (by omega) (by omega) dX2_countWays_14 (by decide) (fun c1 => ?_) (fun c1 => ?_)
      · skip
        refine ri_const X (v := 0) dX2_countWays_30 ?_
        refine lv_istore_n (lv' := [(3, .int (iI 0)), (0, .ref (G.2.2 15)), (1, .ref (G.2.2 (41 + 2 * j))), (2, .ref (G.2.2 (6 + 2 * w)))]) X.1 X.2.1 dX2_countWays_31 rfl hl (by decide) rfl (fun ls hl => ?_)
        have lp_32 : ∀ (fu_ : Nat) (q : Int) (Y : Nat → Int → Int), (12 - q).toNat < fu_ → ∀ (hq : 0 ≤ q ∧ q ≤ n_) (hYf : ∀ (c_ : Nat) (i : Int), ¬ c_ = 9 → Y c_ i = S.1 c_ i) (hc1 : ∀ i : Int, 0 ≤ i → i ≤ m_ → Y 9 i = (cwv sg f kd q.toNat i.toNat)) (H : Heap) (locs : List Loc), In (KC G) s s.heap H locs (Y, S.2) → ∀ ls : Array Slot, lv_has ls 5 [(0, .ref (G.2.2 15)), (1, .ref (G.2.2 (41 + 2 * j))), (2, .ref (G.2.2 (6 + 2 * w))), (3, .int (iI q))] → W p l e rm_X2_countWays s m args below meth c H locs 0 0 (MQ below (QI (KC G) (po_X2_countWays S j w n_ kd sg m_ f)) args s 0 0 (KC G).2.2.2) (F0 m 32 ls []) := by
          intro fu_
          induction fu_ with
          | zero => intro q Y hm; exact absurd hm (by omega)
          | succ fu_ ih_32 =>
            intro q Y hm_32 hq hYf hc1 H locs I ls hl
            refine lv_iload_n X.1 X.2.1 dX2_countWays_32 rfl (lv_at hl 3 rfl) ?_
            refine lv_aload_n X.1 X.2.1 dX2_countWays_33 rfl (lv_at hl 1 rfl) ?_
            refine gC_name_size X I (j := j) hj (v := n_) ((hYf 2 (j : Int) (by decide)).trans e_n_) tb_67 dX2_countWays_34 ?_
            refine rj_ge (tgt := 100) X (by omega) (by omega) dX2_countWays_37 (by decide) (fun c2 => ?_) (fun c2 => ?_)
            · skip
              have hq2 : q = n_ := by omega
              subst hq2
              refine lv_aload_n X.1 X.2.1 dX2_countWays_100 rfl (lv_at hl 0 rfl) ?_
              refine gC_laying_counts X I tb_159 dX2_countWays_101 ?_
              refine lv_aload_n X.1 X.2.1 dX2_countWays_104 rfl (lv_at hl 2 rfl) ?_
              refine gC_word_size X I (w := w) hw (v := m_) ((hYf 8 (w : Int) (by decide)).trans e_m_) tb_141 dX2_countWays_105 ?_
              refine aC_counts X I (v := (Y 9 m_)) rfl (by omega) dX2_countWays_108 ?_
              exact rt_i X hr hlk I rfl (by exact ⟨rfl, hYf, hc1 m_ (by omega) (by omega)⟩) dX2_countWays_109
            · skip
              refine lv_aload_n X.1 X.2.1 dX2_countWays_40 rfl (lv_at hl 2 rfl) ?_
              refine gC_word_size X I (w := w) hw (v := m_) ((hYf 8 (w : Int) (by decide)).trans e_m_) tb_141 dX2_countWays_41 ?_
              refine lv_istore (lv' := [(4, .int (iI m_)), (0, .ref (G.2.2 15)), (1, .ref (G.2.2 (41 + 2 * j))), (2, .ref (G.2.2 (6 + 2 * w))), (3, .int (iI q))]) X.1 X.2.1 dX2_countWays_44 hl (by decide) rfl (fun ls hl => ?_)
              have lp_46 : ∀ (fu_ : Nat) (k : Int) (Z : Nat → Int → Int), k.toNat < fu_ → ∀ (hk : 0 ≤ k ∧ k ≤ m_) (hZf : ∀ (c_ : Nat) (i : Int), ¬ c_ = 9 → Z c_ i = S.1 c_ i) (hc2 : ∀ i : Int, 0 ≤ i → i ≤ k → Z 9 i = (cwv sg f kd q.toNat i.toNat)) (hc3 : ∀ i : Int, k < i → i ≤ m_ → Z 9 i = (cwv sg f kd (q + 1).toNat i.toNat)) (H : Heap) (locs : List Loc), In (KC G) s s.heap H locs (Z, S.2) → ∀ ls : Array Slot, lv_has ls 5 [(0, .ref (G.2.2 15)), (1, .ref (G.2.2 (41 + 2 * j))), (2, .ref (G.2.2 (6 + 2 * w))), (3, .int (iI q)), (4, .int (iI k))] → W p l e rm_X2_countWays s m args below meth c H locs 0 0 (MQ below (QI (KC G) (po_X2_countWays S j w n_ kd sg m_ f)) args s 0 0 (KC G).2.2.2) (F0 m 46 ls []) := by
                intro fu_
                induction fu_ with
                | zero => intro k Z hm; exact absurd hm (by omega)
                | succ fu_ ih_46 =>
                  intro k Z hm_46 hk hZf hc2 hc3 H locs I ls hl
                  refine lv_iload X.1 X.2.1 dX2_countWays_46 (lv_at hl 4 rfl) ?_
                  refine ri_const X (v := 1) dX2_countWays_48 ?_
                  refine rj_lt (tgt := 94) X (by omega) (by omega) dX2_countWays_49 (by decide) (fun c3 => ?_) (fun c3 => ?_)
                  · skip
                    refine ri_iinc X (k := 3) (v := (q + 1)) (lv' := [(3, .int (iI (q + 1))), (0, .ref (G.2.2 15)), (1, .ref (G.2.2 (41 + 2 * j))), (2, .ref (G.2.2 (6 + 2 * w))), (4, .int (iI k))]) rfl dX2_countWays_94 hl rfl (by decide) rfl (fun ls hl => ?_)
                    refine lv_goto (tgt := 32) X.1 X.2.1 dX2_countWays_97 (by decide) ?_
                    exact ih_32 (q + 1) Z (by omega) (by omega) (hZf) (fun i h1 h2 => if h0 : i = 0 then (by rw [h0, hc2 0 (by omega) (by omega)]; exact cwv_0 (by omega)) else hc3 i (by omega) h2) _ _ I ls (lv_sub hl [1, 2, 3, 0] rfl)
                  · skip
                    have hsq := hsg q (by omega) (by omega)
                    have hfk := hf (k - 1) (by omega) (by omega)
                    refine lv_aload_n X.1 X.2.1 dX2_countWays_52 rfl (lv_at hl 1 rfl) ?_
                    refine lv_iload_n X.1 X.2.1 dX2_countWays_53 rfl (lv_at hl 3 rfl) ?_
                    refine lv_aload_n X.1 X.2.1 dX2_countWays_54 rfl (lv_at hl 2 rfl) ?_
                    refine gC_word_letters X I (w := w) hw tb_138 dX2_countWays_55 ?_
                    refine lv_iload X.1 X.2.1 dX2_countWays_58 (lv_at hl 4 rfl) ?_
                    refine ri_const X (v := 1) dX2_countWays_60 ?_
                    refine ri_sub X (v := (k - 1)) rfl dX2_countWays_61 ?_
                    refine aC_word X I (w := w) hw (v := (f (k - 1))) ((hZf (16 + w) (k - 1) (by omega)).trans (e_f (k - 1))) (by omega) dX2_countWays_62 ?_
                    refine cl_i I (runV (As := [.int (iI q), .int (iI (f (k - 1)))]) (rest := []) X (k_X4_isAlike l G (Z, S.2) (j) q (f (k - 1)) (sg q) kd ((hZf (20 + j) q (by omega)).trans (e_sg q)) ((hZf 3 (j : Int) (by decide)).trans e_kd) hj (by omega) (by omega) (by omega) hkd) (gdC tb_466 (gdC tb_467 (gdC tb_468 (gdC tb_17 (gdC tb_469 gdB))))) ⟨ok_X4_isAlike, ⟨Nat.le_of_ble_eq_true rfl, Nat.le_of_ble_eq_true rfl⟩, rfl, rfl⟩ (PreV.of (C := RX4) (T := TX4) (N := 7) I (atC_name (j := j) hj) rfl) rfl hl.1 rfl (Nat.le_of_ble_eq_true rfl) dX2_countWays_63 ⟨Nat.zero_le _, Nat.zero_le _⟩) (fun r4 S5 H locs q6 I => ?_)
                    obtain ⟨e1_, e2_⟩ := q6
                    rw [e2_] at I
                    rw [e1_]
                    clear e1_ e2_
                    rcases Decidable.em (alk (sg q) kd (f (k - 1))) with b7 | b7
                    · rw [bI_t b7]
                      refine rz_eq (tgt := 88) X (by omega) dX2_countWays_66 (by decide) (fun c8 => absurd c8 (by decide)) (fun _ => ?_)
                      refine lv_aload_n X.1 X.2.1 dX2_countWays_69 rfl (lv_at hl 0 rfl) ?_
                      refine gC_laying_counts X I tb_159 dX2_countWays_70 ?_
                      refine lv_iload X.1 X.2.1 dX2_countWays_73 (lv_at hl 4 rfl) ?_
                      refine lv_dup2_11 X.1 X.2.1 dX2_countWays_75 rfl rfl ?_
                      refine aC_counts X I (v := (Z 9 k)) rfl (by omega) dX2_countWays_76 ?_
                      refine lv_aload_n X.1 X.2.1 dX2_countWays_77 rfl (lv_at hl 0 rfl) ?_
                      refine gC_laying_counts X I tb_159 dX2_countWays_78 ?_
                      refine lv_iload X.1 X.2.1 dX2_countWays_81 (lv_at hl 4 rfl) ?_
                      refine ri_const X (v := 1) dX2_countWays_83 ?_
                      refine ri_sub X (v := (k - 1)) rfl dX2_countWays_84 ?_
                      refine aC_counts X I (v := (Z 9 (k - 1))) rfl (by omega) dX2_countWays_85 ?_
                      refine ri_add X (v := ((Z 9 k) + (Z 9 (k - 1)))) rfl dX2_countWays_86 ?_
                      refine qC_counts X I (by omega) dX2_countWays_87 (fun H locs I => ?_)
                      have I : In (KC G) s s.heap H locs ((ua Z 9 k ((Z 9 k) + (Z 9 (k - 1)))), S.2) := I
                      refine ri_iinc X (k := 4) (v := (k + (-1))) (lv' := [(4, .int (iI (k + (-1)))), (0, .ref (G.2.2 15)), (1, .ref (G.2.2 (41 + 2 * j))), (2, .ref (G.2.2 (6 + 2 * w))), (3, .int (iI q))]) rfl dX2_countWays_88 hl rfl (by decide) rfl (fun ls hl => ?_)
                      refine lv_goto (tgt := 46) X.1 X.2.1 dX2_countWays_91 (by decide) ?_
                      exact ih_46 (k + (-1)) (ua Z 9 k ((Z 9 k) + (Z 9 (k - 1)))) (by omega) (by omega) (fun c_ i h => by first | exact hZf c_ i h | exact (ua_nc h).trans (hZf c_ i h)) (fun i h1 h2 => by first | exact hc2 i h1 (by omega) | (rw [ua_ni (by omega)]; exact hc2 i h1 (by omega))) (fun i h1 h2 => if hi : i = k then (by subst hi; first | (rw [hc2 i (by omega) (by omega)]; exact cwv_no (by omega) (by omega) (by assumption)) | (rw [ua_eq, hc2 i (by omega) (by omega), hc2 (i - 1) (by omega) (by omega)]; exact cwv_yes (by omega) (by omega) (by assumption))) else (by first | exact hc3 i (by omega) h2 | (rw [ua_ni hi]; exact hc3 i (by omega) h2))) _ _ I ls (lv_sub hl [1, 2, 3, 4, 0] rfl)
                    · rw [bI_f b7]
                      refine rz_eq (tgt := 88) X (by omega) dX2_countWays_66 (by decide) (fun _ => ?_) (fun c9 => absurd c9 (fun q => q (by decide)))
                      refine ri_iinc X (k := 4) (v := (k + (-1))) (lv' := [(4, .int (iI (k + (-1)))), (0, .ref (G.2.2 15)), (1, .ref (G.2.2 (41 + 2 * j))), (2, .ref (G.2.2 (6 + 2 * w))), (3, .int (iI q))]) rfl dX2_countWays_88 hl rfl (by decide) rfl (fun ls hl => ?_)
                      refine lv_goto (tgt := 46) X.1 X.2.1 dX2_countWays_91 (by decide) ?_
                      exact ih_46 (k + (-1)) Z (by omega) (by omega) (fun c_ i h => by first | exact hZf c_ i h | exact (ua_nc h).trans (hZf c_ i h)) (fun i h1 h2 => by first | exact hc2 i h1 (by omega) | (rw [ua_ni (by omega)]; exact hc2 i h1 (by omega))) (fun i h1 h2 => if hi : i = k then (by subst hi; first | (rw [hc2 i (by omega) (by omega)]; exact cwv_no (by omega) (by omega) (by assumption)) | (rw [ua_eq, hc2 i (by omega) (by omega), hc2 (i - 1) (by omega) (by omega)]; exact cwv_yes (by omega) (by omega) (by assumption))) else (by first | exact hc3 i (by omega) h2 | (rw [ua_ni hi]; exact hc3 i (by omega) h2))) _ _ I ls (lv_sub hl [1, 2, 3, 4, 0] rfl)
              exact lp_46 (7) m_ Y (by omega) (by omega) (hYf) (hc1) (fun i h1 h2 => absurd h1 (by omega)) _ _ I ls (lv_sub hl [1, 2, 3, 4, 0] rfl)
        exact lp_32 (13) 0 U (by omega) (by omega) (hfr) (fun i h1 h2 => hc0 i h1 (by omega)) _ _ I ls (lv_sub hl [1, 2, 3, 0] rfl)
      · skip
        refine lv_aload_n X.1 X.2.1 dX2_countWays_17 rfl (lv_at hl 0 rfl) ?_
        refine gC_laying_counts X I tb_159 dX2_countWays_18 ?_
        refine lv_iload_n X.1 X.2.1 dX2_countWays_21 rfl (lv_at hl 3 rfl) ?_
        refine ri_const X (v := 0) dX2_countWays_22 ?_
        refine qC_counts X I (by omega) dX2_countWays_23 (fun H locs I => ?_)
        have I : In (KC G) s s.heap H locs ((ua U 9 k 0), S.2) := I
        refine ri_iinc X (k := 3) (v := (k + 1)) (lv' := [(3, .int (iI (k + 1))), (0, .ref (G.2.2 15)), (1, .ref (G.2.2 (41 + 2 * j))), (2, .ref (G.2.2 (6 + 2 * w)))]) rfl dX2_countWays_24 hl rfl (by decide) rfl (fun ls hl => ?_)
        refine lv_goto (tgt := 9) X.1 X.2.1 dX2_countWays_27 (by decide) ?_
        exact ih_9 (k + 1) (ua U 9 k 0) (by omega) (by omega) (fun c_ i h => (ua_nc h).trans (hfr c_ i h)) (fun i h1 h2 => if hi : i = k then (by rw [hi, ua_eq, show k.toNat = (k.toNat - 1) + 1 by omega]; rfl) else (by rw [ua_ni hi]; exact hc0 i h1 (by omega))) _ _ I ls (lv_sub hl [1, 2, 3, 0] rfl)
  exact lp_9 (8) 1 (ua S.1 9 0 1) (by omega) (by omega) (fun c_ i h => ua_nc h) (fun i h1 h2 => by rw [show i = 0 by omega]; exact ua_eq) _ _ I ls (lv_sub hl [1, 2, 3, 0] rfl)
