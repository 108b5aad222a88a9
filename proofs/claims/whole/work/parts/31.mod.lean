def hsL (s : Int → Int) (u : Int) : Nat → Bool
  | 0 => false
  | n + 1 => hsL s u n || decide (lowv (s n) = u)
theorem hsL_no {s : Int → Int} {u k : Int} (h0 : 0 ≤ k) (h : hsL s u k.toNat = false) (hk : ¬ lowv (s k) = u) : hsL s u (k + 1).toNat = false := by
  rw [show (k + 1).toNat = k.toNat + 1 by omega, hsL, h, show ((k.toNat : Nat) : Int) = k by omega]
  simpa using hk
theorem hsL_mono {s : Int → Int} {u : Int} : ∀ (n m : Nat), n ≤ m → hsL s u n = true → hsL s u m = true
  | n, 0, h, q => by rw [show n = 0 by omega] at q; exact q
  | n, m + 1, h, q => by
    rcases Nat.lt_or_ge m n with z | z
    · rw [show n = m + 1 by omega] at q; exact q
    · rw [hsL, hsL_mono n m z q]; rfl
theorem hsL_of {s : Int → Int} {u k n : Int} (h : 0 ≤ k ∧ k < n) (hk : lowv (s k) = u) : hsL s u n.toNat = true := by
  refine hsL_mono (k.toNat + 1) n.toNat (by omega) ?_
  rw [hsL, show ((k.toNat : Nat) : Int) = k by omega, hk]
  simp
def psL (s : Int → Int) (n : Nat) (f : Int → Int) : Nat → Bool
  | 0 => true
  | m + 1 => psL s n f m && hsL s (lowv (f m)) n
theorem psL_s {s f : Int → Int} {n : Nat} {k : Int} (h0 : 0 ≤ k) (h : psL s n f k.toNat = true) (hk : hsL s (lowv (f k)) n = true) : psL s n f (k + 1).toNat = true := by
  rw [show (k + 1).toNat = k.toNat + 1 by omega, psL, h, show ((k.toNat : Nat) : Int) = k by omega, hk]; rfl
theorem psL_no2 {s f : Int → Int} {n : Nat} : ∀ (k m : Nat), k < m → ¬ hsL s (lowv (f k)) n = true → ¬ psL s n f m = true
  | k, 0, h, _ => absurd h (by omega)
  | k, m + 1, h, q => by
    rw [psL, Bool.and_eq_true]
    rcases Nat.lt_or_ge k m with z | z
    · exact fun w => psL_no2 k m z q w.1
    · rw [show m = k by omega]; exact fun w => q w.2
theorem psL_no {s f : Int → Int} {n : Nat} {k m : Int} (h : 0 ≤ k ∧ k < m) (hk : ¬ hsL s (lowv (f k)) n = true) : ¬ psL s n f m.toNat = true := psL_no2 k.toNat m.toNat (by omega) (by rw [show ((k.toNat : Nat) : Int) = k by omega]; exact hk)
theorem wl_congr {A B : Int → Int → Bool} : ∀ (w d : Nat) (k lo : Int), (∀ j : Int, k ≤ j → j < k + d → A j = B j) → wl A w d k lo = wl B w d k lo
  | w, 0, _, _, _ => by rw [wl_0, wl_0]
  | 0, d + 1, _, _, _ => rfl
  | w + 1, d + 1, k, lo, h => by
    rw [wl, wl, wl_congr w d (k + 1) (lo + 1) (fun j a b => h j (by omega) (by omega)), wl_congr w (d + 1) k (lo + 1) h, h k (by omega) (by omega)]
theorem resS_congr {s f g : Int → Int} {kd b r g_ n m : Int} (h : ∀ i : Int, 0 ≤ i → i < m → f i = g i) : resS s f kd b r g_ n m = resS s g kd b r g_ n m := by
  unfold resS
  rw [wl_congr _ _ _ _ (fun j a b => by funext q; unfold alS; rw [h j a (by omega)])]
def plM (di ag cd : Int) : Int := (((31 * di) + (7 * cd)) + ag) % 32
def skM (F : Nat → Int → Int) (di ag cd sc : Int) : (Nat → Int → Int) × Int :=
  if F 16 (plM di ag cd) = di ∧ F 17 (plM di ag cd) = cd ∧ F 18 (plM di ag cd) = ag then (us F 58 (F 58 0 + 1), F 19 (plM di ag cd))
  else (ua (ua (ua (ua (us F 59 (F 59 0 + 1)) 16 (plM di ag cd) di) 17 (plM di ag cd) cd) 18 (plM di ag cd) ag) 19 (plM di ag cd) sc, sc)
theorem skM_y {F : Nat → Int → Int} {di ag cd sc : Int} (h : F 16 ((((31 * di) + (7 * cd)) + ag) % 32) = di ∧ F 17 ((((31 * di) + (7 * cd)) + ag) % 32) = cd ∧ F 18 ((((31 * di) + (7 * cd)) + ag) % 32) = ag) : skM F di ag cd sc = (us F 58 (F 58 0 + 1), F 19 ((((31 * di) + (7 * cd)) + ag) % 32)) := by unfold skM plM; rw [if_pos h]
theorem skM_n {F : Nat → Int → Int} {di ag cd sc : Int} (h : ¬ (F 16 ((((31 * di) + (7 * cd)) + ag) % 32) = di ∧ F 17 ((((31 * di) + (7 * cd)) + ag) % 32) = cd ∧ F 18 ((((31 * di) + (7 * cd)) + ag) % 32) = ag)) : skM F di ag cd sc = (ua (ua (ua (ua (us F 59 (F 59 0 + 1)) 16 ((((31 * di) + (7 * cd)) + ag) % 32) di) 17 ((((31 * di) + (7 * cd)) + ag) % 32) cd) 18 ((((31 * di) + (7 * cd)) + ag) % 32) ag) 19 ((((31 * di) + (7 * cd)) + ag) % 32) sc, sc) := by unfold skM plM; rw [if_neg h]
def KN (F : Nat → Int → Int) : Prop := ∀ q : Int, 0 ≤ q → q < 32 → (-100000 ≤ F 16 q ∧ F 16 q ≤ 100000) ∧ (0 ≤ F 17 q ∧ F 17 q < 1099511627776) ∧ (0 ≤ F 18 q ∧ F 18 q ≤ 100000) ∧ (-2000 ≤ F 19 q ∧ F 19 q ≤ 2000)
theorem skM_fr {F : Nat → Int → Int} {di ag cd sc : Int} {c : Nat} {i : Int} (h1 : ¬ (16 ≤ c ∧ c ≤ 19)) (h2 : ¬ c = 58) (h3 : ¬ c = 59) : (skM F di ag cd sc).1 c i = F c i := by
  unfold skM
  split
  · exact us_nc h2
  · dsimp only
    rw [ua_nc (by omega), ua_nc (by omega), ua_nc (by omega), ua_nc (by omega), us_nc h3]
theorem plM_r {di ag cd : Int} : 0 ≤ plM di ag cd ∧ plM di ag cd < 32 := by unfold plM; omega
theorem skM_r {F : Nat → Int → Int} {di ag cd sc : Int} (h : KN F) (hs : -2000 ≤ sc ∧ sc ≤ 2000) : -2000 ≤ (skM F di ag cd sc).2 ∧ (skM F di ag cd sc).2 ≤ 2000 := by
  unfold skM
  split
  · exact (h _ plM_r.1 plM_r.2).2.2.2
  · exact hs
theorem KN_sk {F V : Nat → Int → Int} {di ag cd sc : Int} (h : KN F) (hd : 0 ≤ di ∧ di ≤ 100000) (ha : 0 ≤ ag ∧ ag ≤ 100000) (hc : 0 ≤ cd ∧ cd < 22164361129) (hs : -2000 ≤ sc ∧ sc ≤ 2000) (hV : ∀ (c_ : Nat) (i : Int), ¬ (20 ≤ c_ ∧ c_ ≤ 22) → ¬ c_ = 62 → ¬ c_ = 63 → V c_ i = (skM F di ag cd sc).1 c_ i) : KN V := by
  intro q q1 q2
  rw [hV 16 q (by decide) (by decide) (by decide), hV 17 q (by decide) (by decide) (by decide), hV 18 q (by decide) (by decide) (by decide), hV 19 q (by decide) (by decide) (by decide)]
  have hq := h q q1 q2
  unfold skM
  split
  · dsimp only
    rw [us_nc (by decide), us_nc (by decide), us_nc (by decide), us_nc (by decide)]; exact hq
  · dsimp only
    simp only [ua_at, us_at]
    simp
    by_cases hqp : q = plM di ag cd
    · simp only [hqp, if_true]
      omega
    · simp only [hqp, if_false]
      exact hq
theorem resS_r {s f : Int → Int} {kd b r g n m : Int} (hb : 0 ≤ b ∧ b ≤ 9) (hr : 0 ≤ r ∧ r ≤ 9) (hg : 0 ≤ g ∧ g ≤ 9) (hn : 0 ≤ n ∧ n ≤ 12) (hm : 0 ≤ m ∧ m ≤ 6) : -2000 ≤ (resS s f kd b r g n m).2.1 ∧ (resS s f kd b r g n m).2.1 ≤ 2000 := by
  have hw : ∀ (w d : Nat) (k lo : Int), 0 ≤ lo → lo + w ≤ 12 → ∀ a ∈ wl (alS s kd f) w d k lo, a.length = d ∧ ∀ q ∈ a, lo ≤ q ∧ q < 12 := by
    intro w
    induction w with
    | zero =>
      intro d k lo h0 h1 a ha
      cases d with
      | zero => rw [wl_0, List.mem_singleton] at ha; subst ha; exact ⟨rfl, fun q hq => by cases hq⟩
      | succ d => rw [wl] at ha; cases ha
    | succ w ih =>
      intro d k lo h0 h1 a ha
      cases d with
      | zero => rw [wl_0, List.mem_singleton] at ha; subst ha; exact ⟨rfl, fun q hq => by cases hq⟩
      | succ d =>
        rw [wl, List.mem_append] at ha
        rcases ha with ha | ha
        · split at ha
          · obtain ⟨b, hb, rfl⟩ := List.mem_map.mp ha
            obtain ⟨i1, i2⟩ := ih d (k + 1) (lo + 1) (by omega) (by omega) b hb
            refine ⟨by rw [List.length_cons, i1], fun q hq => ?_⟩
            rcases List.mem_cons.mp hq with e | e
            · omega
            · have := i2 q e; omega
          · cases ha
        · obtain ⟨i1, i2⟩ := ih (d + 1) k (lo + 1) (by omega) (by omega) a ha
          exact ⟨i1, fun q hq => by have := i2 q hq; omega⟩
  have hr2 : ∀ a : List Int, (∀ q ∈ a, 0 ≤ q ∧ q < 12) → -200 * (a.length : Int) ≤ rwt (opl (bgv s n.toNat) kd b) (ost kd r g) a ∧ rwt (opl (bgv s n.toNat) kd b) (ost kd r g) a ≤ 200 * (a.length : Int) := by
    intro a
    induction a with
    | nil => intro _; rw [rwt]; simp
    | cons q t ih =>
      intro h
      have h1 := opl_q (bg := bgv s n.toNat) (k := kd) (q := q) hb
      have h2 := ih (fun x hx => h x (List.mem_cons_of_mem _ hx))
      cases t with
      | nil => rw [rwt, List.length_singleton]; omega
      | cons x t =>
        have h3 := ost_q (k := kd) (q := q) (x := x) hr hg (h q List.mem_cons_self) (h x (List.mem_cons_of_mem _ List.mem_cons_self))
        rw [rwt, List.length_cons]
        omega
  have key : ∀ (l : List (List Int)), (∀ a ∈ l, -2000 ≤ rwt (opl (bgv s n.toNat) kd b) (ost kd r g) a ∧ rwt (opl (bgv s n.toNat) kd b) (ost kd r g) a ≤ 2000) → ∀ (c v : Int) (w : List Int), -2000 ≤ v ∧ v ≤ 2000 → -2000 ≤ (fw (rwt (opl (bgv s n.toNat) kd b) (ost kd r g)) l c v w).2.1 ∧ (fw (rwt (opl (bgv s n.toNat) kd b) (ost kd r g)) l c v w).2.1 ≤ 2000 := by
    intro l
    induction l with
    | nil => intro _ c v w h; exact h
    | cons a l ih =>
      intro h c v w hv
      rw [fw]
      split
      · exact ih (fun x hx => h x (List.mem_cons_of_mem _ hx)) _ _ _ (h a List.mem_cons_self)
      · exact ih (fun x hx => h x (List.mem_cons_of_mem _ hx)) _ _ _ hv
  unfold resS
  refine key _ (fun a ha => ?_) _ _ _ (by omega)
  obtain ⟨h1, h2⟩ := hw _ _ _ _ (by omega) (by omega) a ha
  have h3 := hr2 a (fun q hq => by have := h2 q hq; omega)
  rw [h1] at h3
  omega

theorem ok_X10_has : yX10_has.cls ≠ "java/lang/invoke/MethodHandle" ∧ yX10_has.cls ≠ "java/lang/invoke/VarHandle" ∧ (parseMethodDescriptor yX10_has.desc).map (fun d => d.parameters.length) = some 2 := ⟨by decide +kernel, by decide +kernel, by decide +kernel⟩
abbrev po_X10_has (S : St)  (x : Int) (u : Int) (n_ : Int) (sa : Int → Int) : Int → St → Prop := fun r S1 => r = bI (hsL (fun z_ => sa (12 * x + z_)) u n_.toNat = true) ∧ S1 = S
abbrev rm_X10_has : Room := ({ frames := 2, cells := 0, slots := 0, locals := 40 } : Room)
set_option maxRecDepth 100000 in
set_option maxHeartbeats 4000000 in
theorem k_X10_has (l : Launch) (G : Ge) (S : St)  (x : Int) (u : Int) (n_ : Int) (sa : Int → Int) (e_n_ : S.1 3 x = n_) (e_sa : ∀ i : Int, S.1 2 i = sa i) (hx : 0 ≤ x ∧ x < 8) (hu : 0 ≤ u ∧ u ≤ 1000) (hn_ : 1 ≤ n_ ∧ n_ ≤ 12) (hs : ∀ k : Int, 0 ≤ k → k < n_ → ((97 ≤ sa (12 * x + k) ∧ sa (12 * x + k) ≤ 122) ∨ (65 ≤ sa (12 * x + k) ∧ sa (12 * x + k) ≤ 90) ∨ sa (12 * x + k) = 95)) : Ki (KM G) l yX10_has cX10_has 4 .boolean rm_X10_has [.ref (G.2.2 0), .int (iI x), .int (iI u)] S (po_X10_has S x u n_ sa) := by
  refine K_start (own := "NameSeekerModel") (by decide +kernel) rfl (Nat.le_of_ble_eq_true rfl) ?_
  intro p e s m args below meth c X hr hlk I ls hl
  have hl : lv_has ls 4 [(0, .ref (G.2.2 0)), (1, .int (iI x)), (2, .int (iI u))] := hl
  refine ri_const X (v := 0) dX10_has_0 ?_
  refine lv_istore_n (lv' := [(3, .int (iI 0)), (0, .ref (G.2.2 0)), (1, .int (iI x)), (2, .int (iI u))]) X.1 X.2.1 dX10_has_1 rfl hl (by decide) rfl (fun ls hl => ?_)
  have lp_2 : ∀ (fu_ : Nat) (k : Int), (12 - k).toNat < fu_ → ∀ (hk : 0 ≤ k ∧ k ≤ n_) (hI : hsL (fun z_ => sa (12 * x + z_)) u k.toNat = false) (H : Heap) (locs : List Loc), In (KM G) s s.heap H locs S → ∀ ls : Array Slot, lv_has ls 4 [(0, .ref (G.2.2 0)), (1, .int (iI x)), (2, .int (iI u)), (3, .int (iI k))] → W p l e rm_X10_has s m args below meth c H locs 0 0 (MQ below (QI (KM G) (po_X10_has S x u n_ sa)) args s 0 0 (KM G).2.2.2) (F0 m 2 ls []) := by
    intro fu_
    induction fu_ with
    | zero => intro k hm; exact absurd hm (by omega)
    | succ fu_ ih_2 =>
      intro k hm_2 hk hI H locs I ls hl
      refine lv_iload_n X.1 X.2.1 dX10_has_2 rfl (lv_at hl 3 rfl) ?_
      refine lv_aload_n X.1 X.2.1 dX10_has_3 rfl (lv_at hl 0 rfl) ?_
      refine gM_model_sizes X I tb_698 dX10_has_4 ?_
      refine lv_iload_n X.1 X.2.1 dX10_has_7 rfl (lv_at hl 1 rfl) ?_
      refine aM_sizes X I (v := n_) e_n_ (by omega) dX10_has_8 ?_
      refine rj_ge (tgt := 38) X (by omega) (by omega) dX10_has_9 (by decide) (fun c1 => ?_) (fun c1 => ?_)
      · skip
        refine ri_const X (v := 0) dX10_has_38 ?_
        exact rt_i X hr hlk I (by rfl) (by refine ⟨(bI_f ?_).symm, rfl⟩; rw [show n_ = k by omega, hI]; decide) dX10_has_39
      · skip
        have hsk := hs k (by omega) (by omega)
        refine lv_aload_n X.1 X.2.1 dX10_has_12 rfl (lv_at hl 0 rfl) ?_
        refine gM_model_signs X I tb_697 dX10_has_13 ?_
        refine ri_push X (v := 12) (by decide) dX10_has_16 ?_
        refine lv_iload_n X.1 X.2.1 dX10_has_18 rfl (lv_at hl 1 rfl) ?_
        refine ri_mul X (v := (12 * x)) rfl dX10_has_19 ?_
        refine lv_iload_n X.1 X.2.1 dX10_has_20 rfl (lv_at hl 3 rfl) ?_
        refine ri_add X (v := ((12 * x) + k)) rfl dX10_has_21 ?_
        refine aM_signs X I (v := (sa ((12 * x) + k))) (e_sa ((12 * x) + k)) (by omega) dX10_has_22 ?_
        refine cl_i I (runS (As := [.int (iI (sa ((12 * x) + k)))]) (rest := []) X (k_X10_low l G S  (sa ((12 * x) + k))  (by omega)) (gdC tb_950 gdB) tb_948 tb_949 tb_48 ⟨ok_X10_low, ⟨Nat.le_of_ble_eq_true rfl, Nat.le_of_ble_eq_true rfl⟩, rfl, rfl⟩ (PreS.of I) rfl hl.1 rfl (Nat.le_of_ble_eq_true rfl) dX10_has_23 ⟨Nat.zero_le _, Nat.zero_le _⟩) (fun r2 S3 H locs q4 I => ?_)
        obtain ⟨e1_, e2_⟩ := q4
        rw [e2_] at I
        rw [e1_]
        clear e1_ e2_
        have t5 := lowv_r (x := (sa ((12 * x) + k)))
        refine lv_iload_n X.1 X.2.1 dX10_has_26 rfl (lv_at hl 2 rfl) ?_
        refine rj_ne (tgt := 32) X (by omega) (by omega) dX10_has_27 (by decide) (fun c6 => ?_) (fun c6 => ?_)
        · skip
          refine ri_iinc X (k := 3) (v := (k + 1)) (lv' := [(3, .int (iI (k + 1))), (0, .ref (G.2.2 0)), (1, .int (iI x)), (2, .int (iI u))]) rfl dX10_has_32 hl rfl (by decide) rfl (fun ls hl => ?_)
          refine lv_goto (tgt := 2) X.1 X.2.1 dX10_has_35 (by decide) ?_
          exact ih_2 (k + 1) (by omega) (by omega) (hsL_no (by omega) hI (by assumption)) _ _ I ls (lv_sub hl [1, 2, 3, 0] rfl)
        · skip
          refine ri_const X (v := 1) dX10_has_30 ?_
          exact rt_i X hr hlk I (by rfl) (by exact ⟨(bI_t (hsL_of (k := k) (by omega) (by assumption))).symm, rfl⟩) dX10_has_31
  exact lp_2 (13) 0 (by omega) (by omega) (rfl) _ _ I ls (lv_sub hl [1, 2, 3, 0] rfl)

theorem ok_X10_passing : yX10_passing.cls ≠ "java/lang/invoke/MethodHandle" ∧ yX10_passing.cls ≠ "java/lang/invoke/VarHandle" ∧ (parseMethodDescriptor yX10_passing.desc).map (fun d => d.parameters.length) = some 1 := ⟨by decide +kernel, by decide +kernel, by decide +kernel⟩
abbrev po_X10_passing (S : St)  (x : Int) (n_ : Int) (sa : Int → Int) (m_ : Int) (f : Int → Int) : Int → St → Prop := fun r S1 => r = bI (psL (fun z_ => sa (12 * x + z_)) n_.toNat f m_.toNat = true) ∧ S1 = S
abbrev rm_X10_passing : Room := ({ frames := 3, cells := 0, slots := 0, locals := 63 } : Room)
set_option maxRecDepth 100000 in
set_option maxHeartbeats 4000000 in
theorem k_X10_passing (l : Launch) (G : Ge) (S : St)  (x : Int) (n_ : Int) (sa : Int → Int) (m_ : Int) (f : Int → Int) (e_n_ : S.1 3 x = n_) (e_sa : ∀ i : Int, S.1 2 i = sa i) (e_m_ : S.1 53 0 = m_) (e_f : ∀ i : Int, S.1 12 i = f i) (hx : 0 ≤ x ∧ x < 8) (hn_ : 1 ≤ n_ ∧ n_ ≤ 12) (hs : ∀ k : Int, 0 ≤ k → k < n_ → ((97 ≤ sa (12 * x + k) ∧ sa (12 * x + k) ≤ 122) ∨ (65 ≤ sa (12 * x + k) ∧ sa (12 * x + k) ≤ 90) ∨ sa (12 * x + k) = 95)) (hm_ : 0 ≤ m_ ∧ m_ ≤ 6) (hf : ∀ j : Int, 0 ≤ j → j < m_ → ((97 ≤ f j ∧ f j ≤ 122) ∨ (65 ≤ f j ∧ f j ≤ 90))) : Ki (KM G) l yX10_passing cX10_passing 3 .boolean rm_X10_passing [.ref (G.2.2 0), .int (iI x)] S (po_X10_passing S x n_ sa m_ f) := by
  refine K_start (own := "NameSeekerModel") (by decide +kernel) rfl (Nat.le_of_ble_eq_true rfl) ?_
  intro p e s m args below meth c X hr hlk I ls hl
  have hl : lv_has ls 3 [(0, .ref (G.2.2 0)), (1, .int (iI x))] := hl
  refine ri_const X (v := 0) dX10_passing_0 ?_
  refine lv_istore_n (lv' := [(2, .int (iI 0)), (0, .ref (G.2.2 0)), (1, .int (iI x))]) X.1 X.2.1 dX10_passing_1 rfl hl (by decide) rfl (fun ls hl => ?_)
  have lp_2 : ∀ (fu_ : Nat) (k : Int), (6 - k).toNat < fu_ → ∀ (hk : 0 ≤ k ∧ k ≤ m_) (hI : psL (fun z_ => sa (12 * x + z_)) n_.toNat f k.toNat = true) (H : Heap) (locs : List Loc), In (KM G) s s.heap H locs S → ∀ ls : Array Slot, lv_has ls 3 [(0, .ref (G.2.2 0)), (1, .int (iI x)), (2, .int (iI k))] → W p l e rm_X10_passing s m args below meth c H locs 0 0 (MQ below (QI (KM G) (po_X10_passing S x n_ sa m_ f)) args s 0 0 (KM G).2.2.2) (F0 m 2 ls []) := by
    intro fu_
    induction fu_ with
    | zero => intro k hm; exact absurd hm (by omega)
    | succ fu_ ih_2 =>
      intro k hm_2 hk hI H locs I ls hl
      refine lv_iload_n X.1 X.2.1 dX10_passing_2 rfl (lv_at hl 2 rfl) ?_
      refine lv_aload_n X.1 X.2.1 dX10_passing_3 rfl (lv_at hl 0 rfl) ?_
      refine gM_model_wordSize X I (v := m_) e_m_ tb_708 dX10_passing_4 ?_
      refine rj_ge (tgt := 35) X (by omega) (by omega) dX10_passing_7 (by decide) (fun c1 => ?_) (fun c1 => ?_)
      · skip
        refine ri_const X (v := 1) dX10_passing_35 ?_
        exact rt_i X hr hlk I (by rfl) (by refine ⟨(bI_t ?_).symm, rfl⟩; rw [show m_ = k by omega]; exact hI) dX10_passing_36
      · skip
        have hfk := hf k (by omega) (by omega)
        refine lv_aload_n X.1 X.2.1 dX10_passing_10 rfl (lv_at hl 0 rfl) ?_
        refine lv_iload_n X.1 X.2.1 dX10_passing_11 rfl (lv_at hl 1 rfl) ?_
        refine lv_aload_n X.1 X.2.1 dX10_passing_12 rfl (lv_at hl 0 rfl) ?_
        refine gM_model_wordRow X I tb_709 dX10_passing_13 ?_
        refine lv_iload_n X.1 X.2.1 dX10_passing_16 rfl (lv_at hl 2 rfl) ?_
        refine aM_wordRow X I (v := (f k)) (e_f k) (by omega) dX10_passing_17 ?_
        refine cl_i I (runS (As := [.int (iI (f k))]) (rest := [.int (iI x), .ref (G.2.2 0)]) X (k_X10_low l G S  (f k)  (by omega)) (gdC tb_950 gdB) tb_948 tb_949 tb_48 ⟨ok_X10_low, ⟨Nat.le_of_ble_eq_true rfl, Nat.le_of_ble_eq_true rfl⟩, rfl, rfl⟩ (PreS.of I) rfl hl.1 rfl (Nat.le_of_ble_eq_true rfl) dX10_passing_18 ⟨Nat.zero_le _, Nat.zero_le _⟩) (fun r2 S3 H locs q4 I => ?_)
        obtain ⟨e1_, e2_⟩ := q4
        rw [e2_] at I
        rw [e1_]
        clear e1_ e2_
        have t5 := lowv_r (x := (f k))
        refine cl_i I (runV (As := [.int (iI x), .int (iI (lowv (f k)))]) (rest := []) X (k_X10_has l G S  x (lowv (f k)) n_ (sa) e_n_ (fun i_ => (e_sa i_)) (by omega) (by omega) hn_ hs) (gdC tb_967 (gdC tb_969 (gdC tb_29 (gdC tb_48 (gdC tb_970 gdB))))) ⟨ok_X10_has, ⟨Nat.le_of_ble_eq_true rfl, Nat.le_of_ble_eq_true rfl⟩, rfl, rfl⟩ (PreV.of (C := RX10) (T := TX10) (N := 41) I (atM_model) rfl) rfl hl.1 rfl (Nat.le_of_ble_eq_true rfl) dX10_passing_21 ⟨Nat.zero_le _, Nat.zero_le _⟩) (fun r6 S7 H locs q8 I => ?_)
        obtain ⟨e1_, e2_⟩ := q8
        rw [e2_] at I
        rw [e1_]
        clear e1_ e2_
        rcases Decidable.em (hsL (fun z_ => (sa) (12 * x + z_)) (lowv (f k)) (n_).toNat = true) with b9 | b9
        · rw [bI_t b9]
          refine rz_ne (tgt := 29) X (by omega) dX10_passing_24 (by decide) (fun _ => ?_) (fun c10 => absurd c10 (by decide))
          refine ri_iinc X (k := 2) (v := (k + 1)) (lv' := [(2, .int (iI (k + 1))), (0, .ref (G.2.2 0)), (1, .int (iI x))]) rfl dX10_passing_29 hl rfl (by decide) rfl (fun ls hl => ?_)
          refine lv_goto (tgt := 2) X.1 X.2.1 dX10_passing_32 (by decide) ?_
          exact ih_2 (k + 1) (by omega) (by omega) (psL_s (by omega) hI (by assumption)) _ _ I ls (lv_sub hl [1, 2, 0] rfl)
        · rw [bI_f b9]
          refine rz_ne (tgt := 29) X (by omega) dX10_passing_24 (by decide) (fun c11 => absurd c11 (by decide)) (fun _ => ?_)
          refine ri_const X (v := 0) dX10_passing_27 ?_
          exact rt_i X hr hlk I (by rfl) (by exact ⟨(bI_f (psL_no (k := k) (by omega) (by assumption))).symm, rfl⟩) dX10_passing_28
  exact lp_2 (7) 0 (by omega) (by omega) (rfl) _ _ I ls (lv_sub hl [1, 2, 0] rfl)

theorem ok_X10_sought : yX10_sought.cls ≠ "java/lang/invoke/MethodHandle" ∧ yX10_sought.cls ≠ "java/lang/invoke/VarHandle" ∧ (parseMethodDescriptor yX10_sought.desc).map (fun d => d.parameters.length) = some 1 := ⟨by decide +kernel, by decide +kernel, by decide +kernel⟩
abbrev po_X10_sought (S : St)  (x : Int) (di : Int) (ag : Int) (m_ : Int) (f : Int → Int) (sa : Int → Int) (kd : Int) (n_ : Int) (b_ : Int) (r_ : Int) (g_ : Int) : Int → St → Prop := fun r S1 => S1.2 = S.2 ∧ (∀ (c_ : Nat) (i : Int), ¬ (20 ≤ c_ ∧ c_ ≤ 22) → ¬ c_ = 62 → ¬ c_ = 63 → S1.1 c_ i = (skM S.1 di ag (cdv f m_.toNat) (resS (fun z_ => sa (12 * x + z_)) f kd b_ r_ g_ n_ m_).2.1).1 c_ i) ∧ r = (skM S.1 di ag (cdv f m_.toNat) (resS (fun z_ => sa (12 * x + z_)) f kd b_ r_ g_ n_ m_).2.1).2
abbrev rm_X10_sought : Room := ({ frames := 5, cells := 0, slots := 0, locals := 111 } : Room)
set_option maxRecDepth 100000 in
set_option maxHeartbeats 4000000 in
theorem k_X10_sought (l : Launch) (G : Ge) (S : St)  (x : Int) (di : Int) (ag : Int) (m_ : Int) (f : Int → Int) (sa : Int → Int) (kd : Int) (n_ : Int) (b_ : Int) (r_ : Int) (g_ : Int) (e_di : S.1 5 x = di) (e_ag : S.1 57 0 = ag) (e_m_ : S.1 53 0 = m_) (e_f : ∀ i : Int, S.1 12 i = f i) (e_sa : ∀ i : Int, S.1 2 i = sa i) (e_kd : S.1 4 x = kd) (e_n_ : S.1 3 x = n_) (e_b_ : S.1 7 0 = b_) (e_r_ : S.1 7 1 = r_) (e_g_ : S.1 7 2 = g_) (hx : 0 ≤ x ∧ x < 8) (hdi : 0 ≤ di ∧ di ≤ 100000) (hag : 0 ≤ ag ∧ ag ≤ 100000) (hwd : (0 ≤ m_ ∧ m_ ≤ 6) ∧ ∀ i : Int, 0 ≤ i → i < m_ → ((97 ≤ f i ∧ f i ≤ 122) ∨ (65 ≤ f i ∧ f i ≤ 90))) (hkd : 0 ≤ kd ∧ kd ≤ 3) (hn_ : 1 ≤ n_ ∧ n_ ≤ 12) (hs : ∀ k : Int, 0 ≤ k → k < n_ → ((97 ≤ sa (12 * x + k) ∧ sa (12 * x + k) ≤ 122) ∨ (65 ≤ sa (12 * x + k) ∧ sa (12 * x + k) ≤ 90) ∨ sa (12 * x + k) = 95)) (hb : 0 ≤ b_ ∧ b_ ≤ 9) (hr_ : 0 ≤ r_ ∧ r_ ≤ 9) (hg : 0 ≤ g_ ∧ g_ ≤ 9) (hKN : KN S.1) : Ki (KM G) l yX10_sought cX10_sought 5 .int rm_X10_sought [.ref (G.2.2 0), .int (iI x)] S (po_X10_sought S x di ag m_ f sa kd n_ b_ r_ g_) := by
  refine K_start (own := "NameSeekerModel") (by decide +kernel) rfl (Nat.le_of_ble_eq_true rfl) ?_
  intro p e s m args below meth c X hr hlk I ls hl
  have hl : lv_has ls 5 [(0, .ref (G.2.2 0)), (1, .int (iI x))] := hl
  refine lv_aload_n X.1 X.2.1 dX10_sought_0 rfl (lv_at hl 0 rfl) ?_
  refine cl_l I (runV (As := []) (rest := []) X (k_X10_code l G S  m_ (f) e_m_ (fun i_ => (e_f i_)) (by omega) hwd.2) (gdC tb_924 (gdC tb_926 (gdC tb_21 (gdC tb_48 (gdC tb_927 gdB))))) ⟨ok_X10_code, ⟨Nat.le_of_ble_eq_true rfl, Nat.le_of_ble_eq_true rfl⟩, rfl, rfl⟩ (PreV.of (C := RX10) (T := TX10) (N := 41) I (atM_model) rfl) rfl hl.1 rfl (Nat.le_of_ble_eq_true rfl) dX10_sought_1 ⟨Nat.zero_le _, Nat.zero_le _⟩) (fun r1 S2 H locs q3 I => ?_)
  obtain ⟨e1_, e2_⟩ := q3
  rw [e2_] at I
  rw [e1_]
  clear e1_ e2_
  have hcr := cdv_r (f := (f)) (m_).toNat (by omega) (fun i h1 h2 => hwd.2 i h1 (by omega))
  refine lv_lstore_n (lv' := [(2, .long (lI (cdv (f) (m_).toNat))), (0, .ref (G.2.2 0)), (1, .int (iI x))]) X.1 X.2.1 dX10_sought_4 rfl hl (by decide) rfl (fun ls hl => ?_)
  refine ri_ldc2 X (v := 31) tb_929 rfl dX10_sought_5 ?_
  refine lv_aload_n X.1 X.2.1 dX10_sought_8 rfl (lv_at hl 1 rfl) ?_
  refine gM_model_ids X I tb_700 dX10_sought_9 ?_
  refine lv_iload_n X.1 X.2.1 dX10_sought_12 rfl (lv_at hl 2 rfl) ?_
  refine aM_ids X I (v := di) e_di (by omega) dX10_sought_13 ?_
  refine ri_i2l X (by omega) dX10_sought_14 ?_
  refine ri_lmul X (v := (31 * di)) rfl dX10_sought_15 ?_
  refine ri_ldc2 X (v := 7) tb_930 rfl dX10_sought_16 ?_
  refine lv_lload_n X.1 X.2.1 dX10_sought_19 rfl (lv_at hl 0 rfl) ?_
  refine ri_lmul X (v := (7 * (cdv (f) (m_).toNat))) rfl dX10_sought_20 ?_
  refine ri_ladd X (v := ((31 * di) + (7 * (cdv (f) (m_).toNat)))) rfl dX10_sought_21 ?_
  refine lv_aload_n X.1 X.2.1 dX10_sought_22 rfl (lv_at hl 1 rfl) ?_
  refine gM_model_age X I (v := ag) e_ag tb_715 dX10_sought_23 ?_
  refine ri_i2l X (by omega) dX10_sought_26 ?_
  refine ri_ladd X (v := (((31 * di) + (7 * (cdv (f) (m_).toNat))) + ag)) rfl dX10_sought_27 ?_
  refine ri_ldc2 X (v := 32) tb_931 rfl dX10_sought_28 ?_
  refine ri_lrem X (v := ((((31 * di) + (7 * (cdv (f) (m_).toNat))) + ag) % 32)) rfl (by omega) (by omega) dX10_sought_31 ?_
  refine ri_l2i X dX10_sought_32 ?_
  have hpl : 0 ≤ (((31 * di) + (7 * (cdv f m_.toNat))) + ag) % 32 ∧ (((31 * di) + (7 * (cdv f m_.toNat))) + ag) % 32 < 32 := by omega
  have hkq := hKN ((((31 * di) + (7 * (cdv f m_.toNat))) + ag) % 32) hpl.1 hpl.2
  refine lv_istore (lv' := [(4, .int (iI ((((31 * di) + (7 * (cdv (f) (m_).toNat))) + ag) % 32))), (2, .long (lI (cdv (f) (m_).toNat))), (0, .ref (G.2.2 0)), (1, .int (iI x))]) X.1 X.2.1 dX10_sought_33 hl (by decide) rfl (fun ls hl => ?_)
  refine lv_aload_n X.1 X.2.1 dX10_sought_35 rfl (lv_at hl 2 rfl) ?_
  refine gM_model_knownIds X I tb_721 dX10_sought_36 ?_
  refine lv_iload X.1 X.2.1 dX10_sought_39 (lv_at hl 0 rfl) ?_
  refine aM_knownIds X I (v := (S.1 16 ((((31 * di) + (7 * (cdv (f) (m_).toNat))) + ag) % 32))) rfl (by omega) dX10_sought_41 ?_
  refine lv_aload_n X.1 X.2.1 dX10_sought_42 rfl (lv_at hl 2 rfl) ?_
  refine gM_model_ids X I tb_700 dX10_sought_43 ?_
  refine lv_iload_n X.1 X.2.1 dX10_sought_46 rfl (lv_at hl 3 rfl) ?_
  refine aM_ids X I (v := di) e_di (by omega) dX10_sought_47 ?_
  refine rj_ne (tgt := 95) X (by omega) (by omega) dX10_sought_48 (by decide) (fun c4 => ?_) (fun c4 => ?_)
  · skip
    have hno : ¬ (S.1 16 ((((31 * di) + (7 * (cdv f m_.toNat))) + ag) % 32) = di ∧ S.1 17 ((((31 * di) + (7 * (cdv f m_.toNat))) + ag) % 32) = (cdv f m_.toNat) ∧ S.1 18 ((((31 * di) + (7 * (cdv f m_.toNat))) + ag) % 32) = ag) := by omega
    refine lv_aload_n X.1 X.2.1 dX10_sought_95 rfl (lv_at hl 2 rfl) ?_
    refine lv_dup X.1 X.2.1 dX10_sought_96 rfl ?_
    refine gM_model_misses X I (v := (S.1 59 0)) rfl tb_717 dX10_sought_97 ?_
    refine ri_const X (v := 1) dX10_sought_100 ?_
    refine ri_add X (v := ((S.1 59 0) + 1)) rfl dX10_sought_101 ?_
    refine pM_model_misses X I tb_717 dX10_sought_102 (fun H locs I => ?_)
    have I : In (KM G) s s.heap H locs ((us S.1 59 ((S.1 59 0) + 1)), S.2) := I
    refine lv_aload_n X.1 X.2.1 dX10_sought_105 rfl (lv_at hl 2 rfl) ?_
    refine cl_v I (runV (As := []) (rest := []) X (k_X10_triesWord l G ((us S.1 59 ((S.1 59 0) + 1)), S.2)  m_ (f) (by show (us S.1 59 ((S.1 59 0) + 1)) 53 0 = _; rw [us_nc (by decide)]; exact e_m_) (fun i_ => (by show (us S.1 59 ((S.1 59 0) + 1)) 12 i_ = _; rw [us_nc (by decide)]; exact (e_f i_))) hwd.1 hwd.2) (gdC tb_932 (gdC tb_934 (gdC tb_22 (gdC tb_48 (gdC tb_935 gdB))))) ⟨ok_X10_triesWord, ⟨Nat.le_of_ble_eq_true rfl, Nat.le_of_ble_eq_true rfl⟩, rfl, rfl⟩ (PreV.of (C := RX10) (T := TX10) (N := 41) I (atM_model) rfl) rfl hl.1 rfl (Nat.le_of_ble_eq_true rfl) dX10_sought_106 ⟨Nat.zero_le _, Nat.zero_le _⟩) (fun S6 H locs q7 I => ?_)
    obtain ⟨hT2, hT62, hTw, hTf⟩ := q7
    obtain ⟨T1, T2⟩ := S6
    dsimp only at hT2 hT62 hTw hTf
    subst hT2
    refine lv_aload_n X.1 X.2.1 dX10_sought_109 rfl (lv_at hl 2 rfl) ?_
    refine lv_iload_n X.1 X.2.1 dX10_sought_110 rfl (lv_at hl 3 rfl) ?_
    refine cl_i I (runV (As := [.int (iI x)]) (rest := []) X (k_X10_waysOf l G (T1, S.2)  x (sa) kd n_ m_ (T1 20) b_ r_ g_ (fun i_ => ((hTf 2 i_ (by omega) (by omega)).trans (by show (us S.1 59 ((S.1 59 0) + 1)) 2 i_ = _; rw [us_nc (by decide)]; exact (e_sa i_)))) ((hTf 4 x (by omega) (by omega)).trans (by show (us S.1 59 ((S.1 59 0) + 1)) 4 x = _; rw [us_nc (by decide)]; exact e_kd)) ((hTf 3 x (by omega) (by omega)).trans (by show (us S.1 59 ((S.1 59 0) + 1)) 3 x = _; rw [us_nc (by decide)]; exact e_n_)) hT62 (fun i_ => rfl) ((hTf 7 0 (by omega) (by omega)).trans (by show (us S.1 59 ((S.1 59 0) + 1)) 7 0 = _; rw [us_nc (by decide)]; exact e_b_)) ((hTf 7 1 (by omega) (by omega)).trans (by show (us S.1 59 ((S.1 59 0) + 1)) 7 1 = _; rw [us_nc (by decide)]; exact e_r_)) ((hTf 7 2 (by omega) (by omega)).trans (by show (us S.1 59 ((S.1 59 0) + 1)) 7 2 = _; rw [us_nc (by decide)]; exact e_g_)) (by omega) hkd hn_ hs hwd.1 (fun j a b => by first | (rw [hTw j a b]; exact hwd.2 j a b) | exact hwd.2 j a b) hb hr_ hg) (gdC tb_936 (gdC tb_938 (gdC tb_23 (gdC tb_48 (gdC tb_939 gdB))))) ⟨ok_X10_waysOf, ⟨Nat.le_of_ble_eq_true rfl, Nat.le_of_ble_eq_true rfl⟩, rfl, rfl⟩ (PreV.of (C := RX10) (T := TX10) (N := 41) I (atM_model) rfl) rfl hl.1 rfl (Nat.le_of_ble_eq_true rfl) dX10_sought_111 ⟨Nat.zero_le _, Nat.zero_le _⟩) (fun r8 S9 H locs q10 I => ?_)
    obtain ⟨hW12, hW13, hW14, hW15, hW16, hW17, hW18⟩ := q10
    rw [resS_congr hTw] at hW12 hW14 hW15
    obtain ⟨V11, V2⟩ := S9
    dsimp only at hW13 hW14 hW15 hW17 hW18
    subst hW13
    subst hW12
    refine lv_pop X.1 X.2.1 dX10_sought_114 rfl ?_
    refine lv_aload_n X.1 X.2.1 dX10_sought_115 rfl (lv_at hl 2 rfl) ?_
    refine gM_model_knownIds X I tb_721 dX10_sought_116 ?_
    refine lv_iload X.1 X.2.1 dX10_sought_119 (lv_at hl 0 rfl) ?_
    refine lv_aload_n X.1 X.2.1 dX10_sought_121 rfl (lv_at hl 2 rfl) ?_
    refine gM_model_ids X I tb_700 dX10_sought_122 ?_
    refine lv_iload_n X.1 X.2.1 dX10_sought_125 rfl (lv_at hl 3 rfl) ?_
    refine aM_ids X I (v := di) ((hW18 5 x (by omega) (by omega) (by omega)).trans ((hTf 5 x (by omega) (by omega)).trans (by show (us S.1 59 ((S.1 59 0) + 1)) 5 x = _; rw [us_nc (by decide)]; exact e_di))) (by omega) dX10_sought_126 ?_
    refine qM_knownIds X I (by omega) dX10_sought_127 (fun H locs I => ?_)
    have I : In (KM G) s s.heap H locs ((ua V11 16 ((((31 * di) + (7 * (cdv (f) (m_).toNat))) + ag) % 32) di), S.2) := I
    refine lv_aload_n X.1 X.2.1 dX10_sought_128 rfl (lv_at hl 2 rfl) ?_
    refine gM_model_knownCodes X I tb_722 dX10_sought_129 ?_
    refine lv_iload X.1 X.2.1 dX10_sought_132 (lv_at hl 0 rfl) ?_
    refine lv_lload_n X.1 X.2.1 dX10_sought_134 rfl (lv_at hl 1 rfl) ?_
    refine qM_knownCodes X I (by omega) dX10_sought_135 (fun H locs I => ?_)
    have I : In (KM G) s s.heap H locs ((ua (ua V11 16 ((((31 * di) + (7 * (cdv (f) (m_).toNat))) + ag) % 32) di) 17 ((((31 * di) + (7 * (cdv (f) (m_).toNat))) + ag) % 32) (cdv (f) (m_).toNat)), S.2) := I
    refine lv_aload_n X.1 X.2.1 dX10_sought_136 rfl (lv_at hl 2 rfl) ?_
    refine gM_model_knownAges X I tb_723 dX10_sought_137 ?_
    refine lv_iload X.1 X.2.1 dX10_sought_140 (lv_at hl 0 rfl) ?_
    refine lv_aload_n X.1 X.2.1 dX10_sought_142 rfl (lv_at hl 2 rfl) ?_
    refine gM_model_age X I (v := ag) (by show (ua (ua V11 16 ((((31 * di) + (7 * (cdv (f) (m_).toNat))) + ag) % 32) di) 17 ((((31 * di) + (7 * (cdv (f) (m_).toNat))) + ag) % 32) (cdv (f) (m_).toNat)) 57 0 = _; rw [ua_nc (by decide), ua_nc (by decide)]; exact ((hW18 57 0 (by omega) (by omega) (by omega)).trans ((hTf 57 0 (by omega) (by omega)).trans (by show (us S.1 59 ((S.1 59 0) + 1)) 57 0 = _; rw [us_nc (by decide)]; exact e_ag)))) tb_715 dX10_sought_143 ?_
    refine qM_knownAges X I (by omega) dX10_sought_146 (fun H locs I => ?_)
    have I : In (KM G) s s.heap H locs ((ua (ua (ua V11 16 ((((31 * di) + (7 * (cdv (f) (m_).toNat))) + ag) % 32) di) 17 ((((31 * di) + (7 * (cdv (f) (m_).toNat))) + ag) % 32) (cdv (f) (m_).toNat)) 18 ((((31 * di) + (7 * (cdv (f) (m_).toNat))) + ag) % 32) ag), S.2) := I
    refine lv_aload_n X.1 X.2.1 dX10_sought_147 rfl (lv_at hl 2 rfl) ?_
    refine gM_model_knownScores X I tb_724 dX10_sought_148 ?_
    refine lv_iload X.1 X.2.1 dX10_sought_151 (lv_at hl 0 rfl) ?_
    refine lv_aload_n X.1 X.2.1 dX10_sought_153 rfl (lv_at hl 2 rfl) ?_
    refine gM_model_bestWorth X I (v := (resS (fun z_ => (sa) (12 * x + z_)) (f) kd b_ r_ g_ n_ m_).2.1) (by show (ua (ua (ua V11 16 ((((31 * di) + (7 * (cdv (f) (m_).toNat))) + ag) % 32) di) 17 ((((31 * di) + (7 * (cdv (f) (m_).toNat))) + ag) % 32) (cdv (f) (m_).toNat)) 18 ((((31 * di) + (7 * (cdv (f) (m_).toNat))) + ag) % 32) ag) 63 0 = _; rw [ua_nc (by decide), ua_nc (by decide), ua_nc (by decide)]; exact hW14) tb_729 dX10_sought_154 ?_
    refine qM_knownScores X I (by omega) dX10_sought_157 (fun H locs I => ?_)
    have I : In (KM G) s s.heap H locs ((ua (ua (ua (ua V11 16 ((((31 * di) + (7 * (cdv (f) (m_).toNat))) + ag) % 32) di) 17 ((((31 * di) + (7 * (cdv (f) (m_).toNat))) + ag) % 32) (cdv (f) (m_).toNat)) 18 ((((31 * di) + (7 * (cdv (f) (m_).toNat))) + ag) % 32) ag) 19 ((((31 * di) + (7 * (cdv (f) (m_).toNat))) + ag) % 32) (resS (fun z_ => (sa) (12 * x + z_)) (f) kd b_ r_ g_ n_ m_).2.1), S.2) := I
    refine lv_aload_n X.1 X.2.1 dX10_sought_158 rfl (lv_at hl 2 rfl) ?_
    refine gM_model_bestWorth X I (v := (resS (fun z_ => (sa) (12 * x + z_)) (f) kd b_ r_ g_ n_ m_).2.1) (by show (ua (ua (ua (ua V11 16 ((((31 * di) + (7 * (cdv (f) (m_).toNat))) + ag) % 32) di) 17 ((((31 * di) + (7 * (cdv (f) (m_).toNat))) + ag) % 32) (cdv (f) (m_).toNat)) 18 ((((31 * di) + (7 * (cdv (f) (m_).toNat))) + ag) % 32) ag) 19 ((((31 * di) + (7 * (cdv (f) (m_).toNat))) + ag) % 32) (resS (fun z_ => (sa) (12 * x + z_)) (f) kd b_ r_ g_ n_ m_).2.1) 63 0 = _; rw [ua_nc (by decide), ua_nc (by decide), ua_nc (by decide), ua_nc (by decide)]; exact hW14) tb_729 dX10_sought_159 ?_
    exact rt_i X hr hlk I rfl (by exact ⟨rfl, fun c_ i h1 h2 h3 => by rw [skM_n hno]; exact ua4_congr ((hW18 c_ i (by omega) (by omega) h3).trans (hTf c_ i (by omega) h2)), by rw [skM_n hno]⟩) dX10_sought_162
  · skip
    refine lv_aload_n X.1 X.2.1 dX10_sought_51 rfl (lv_at hl 2 rfl) ?_
    refine gM_model_knownCodes X I tb_722 dX10_sought_52 ?_
    refine lv_iload X.1 X.2.1 dX10_sought_55 (lv_at hl 0 rfl) ?_
    refine aM_knownCodes X I (v := (S.1 17 ((((31 * di) + (7 * (cdv (f) (m_).toNat))) + ag) % 32))) rfl (by omega) dX10_sought_57 ?_
    refine lv_lload_n X.1 X.2.1 dX10_sought_58 rfl (lv_at hl 1 rfl) ?_
    refine rl_ne (tgt := 95) X (by omega) (by omega) dX10_sought_59 dX10_sought_60 (by decide) (fun c19 => ?_) (fun c19 => ?_)
    · skip
      have hno : ¬ (S.1 16 ((((31 * di) + (7 * (cdv f m_.toNat))) + ag) % 32) = di ∧ S.1 17 ((((31 * di) + (7 * (cdv f m_.toNat))) + ag) % 32) = (cdv f m_.toNat) ∧ S.1 18 ((((31 * di) + (7 * (cdv f m_.toNat))) + ag) % 32) = ag) := by omega
      refine lv_aload_n X.1 X.2.1 dX10_sought_95 rfl (lv_at hl 2 rfl) ?_
      refine lv_dup X.1 X.2.1 dX10_sought_96 rfl ?_
      refine gM_model_misses X I (v := (S.1 59 0)) rfl tb_717 dX10_sought_97 ?_
      refine ri_const X (v := 1) dX10_sought_100 ?_
      refine ri_add X (v := ((S.1 59 0) + 1)) rfl dX10_sought_101 ?_
      refine pM_model_misses X I tb_717 dX10_sought_102 (fun H locs I => ?_)
      have I : In (KM G) s s.heap H locs ((us S.1 59 ((S.1 59 0) + 1)), S.2) := I
      refine lv_aload_n X.1 X.2.1 dX10_sought_105 rfl (lv_at hl 2 rfl) ?_
      refine cl_v I (runV (As := []) (rest := []) X (k_X10_triesWord l G ((us S.1 59 ((S.1 59 0) + 1)), S.2)  m_ (f) (by show (us S.1 59 ((S.1 59 0) + 1)) 53 0 = _; rw [us_nc (by decide)]; exact e_m_) (fun i_ => (by show (us S.1 59 ((S.1 59 0) + 1)) 12 i_ = _; rw [us_nc (by decide)]; exact (e_f i_))) hwd.1 hwd.2) (gdC tb_932 (gdC tb_934 (gdC tb_22 (gdC tb_48 (gdC tb_935 gdB))))) ⟨ok_X10_triesWord, ⟨Nat.le_of_ble_eq_true rfl, Nat.le_of_ble_eq_true rfl⟩, rfl, rfl⟩ (PreV.of (C := RX10) (T := TX10) (N := 41) I (atM_model) rfl) rfl hl.1 rfl (Nat.le_of_ble_eq_true rfl) dX10_sought_106 ⟨Nat.zero_le _, Nat.zero_le _⟩) (fun S21 H locs q22 I => ?_)
      obtain ⟨hT2, hT62, hTw, hTf⟩ := q22
      obtain ⟨T1, T2⟩ := S21
      dsimp only at hT2 hT62 hTw hTf
      subst hT2
      refine lv_aload_n X.1 X.2.1 dX10_sought_109 rfl (lv_at hl 2 rfl) ?_
      refine lv_iload_n X.1 X.2.1 dX10_sought_110 rfl (lv_at hl 3 rfl) ?_
      refine cl_i I (runV (As := [.int (iI x)]) (rest := []) X (k_X10_waysOf l G (T1, S.2)  x (sa) kd n_ m_ (T1 20) b_ r_ g_ (fun i_ => ((hTf 2 i_ (by omega) (by omega)).trans (by show (us S.1 59 ((S.1 59 0) + 1)) 2 i_ = _; rw [us_nc (by decide)]; exact (e_sa i_)))) ((hTf 4 x (by omega) (by omega)).trans (by show (us S.1 59 ((S.1 59 0) + 1)) 4 x = _; rw [us_nc (by decide)]; exact e_kd)) ((hTf 3 x (by omega) (by omega)).trans (by show (us S.1 59 ((S.1 59 0) + 1)) 3 x = _; rw [us_nc (by decide)]; exact e_n_)) hT62 (fun i_ => rfl) ((hTf 7 0 (by omega) (by omega)).trans (by show (us S.1 59 ((S.1 59 0) + 1)) 7 0 = _; rw [us_nc (by decide)]; exact e_b_)) ((hTf 7 1 (by omega) (by omega)).trans (by show (us S.1 59 ((S.1 59 0) + 1)) 7 1 = _; rw [us_nc (by decide)]; exact e_r_)) ((hTf 7 2 (by omega) (by omega)).trans (by show (us S.1 59 ((S.1 59 0) + 1)) 7 2 = _; rw [us_nc (by decide)]; exact e_g_)) (by omega) hkd hn_ hs hwd.1 (fun j a b => by first | (rw [hTw j a b]; exact hwd.2 j a b) | exact hwd.2 j a b) hb hr_ hg) (gdC tb_936 (gdC tb_938 (gdC tb_23 (gdC tb_48 (gdC tb_939 gdB))))) ⟨ok_X10_waysOf, ⟨Nat.le_of_ble_eq_true rfl, Nat.le_of_ble_eq_true rfl⟩, rfl, rfl⟩ (PreV.of (C := RX10) (T := TX10) (N := 41) I (atM_model) rfl) rfl hl.1 rfl (Nat.le_of_ble_eq_true rfl) dX10_sought_111 ⟨Nat.zero_le _, Nat.zero_le _⟩) (fun r23 S24 H locs q25 I => ?_)
      obtain ⟨hW27, hW28, hW29, hW30, hW31, hW32, hW33⟩ := q25
      rw [resS_congr hTw] at hW27 hW29 hW30
      obtain ⟨V26, V2⟩ := S24
      dsimp only at hW28 hW29 hW30 hW32 hW33
      subst hW28
      subst hW27
      refine lv_pop X.1 X.2.1 dX10_sought_114 rfl ?_
      refine lv_aload_n X.1 X.2.1 dX10_sought_115 rfl (lv_at hl 2 rfl) ?_
      refine gM_model_knownIds X I tb_721 dX10_sought_116 ?_
      refine lv_iload X.1 X.2.1 dX10_sought_119 (lv_at hl 0 rfl) ?_
      refine lv_aload_n X.1 X.2.1 dX10_sought_121 rfl (lv_at hl 2 rfl) ?_
      refine gM_model_ids X I tb_700 dX10_sought_122 ?_
      refine lv_iload_n X.1 X.2.1 dX10_sought_125 rfl (lv_at hl 3 rfl) ?_
      refine aM_ids X I (v := di) ((hW33 5 x (by omega) (by omega) (by omega)).trans ((hTf 5 x (by omega) (by omega)).trans (by show (us S.1 59 ((S.1 59 0) + 1)) 5 x = _; rw [us_nc (by decide)]; exact e_di))) (by omega) dX10_sought_126 ?_
      refine qM_knownIds X I (by omega) dX10_sought_127 (fun H locs I => ?_)
      have I : In (KM G) s s.heap H locs ((ua V26 16 ((((31 * di) + (7 * (cdv (f) (m_).toNat))) + ag) % 32) di), S.2) := I
      refine lv_aload_n X.1 X.2.1 dX10_sought_128 rfl (lv_at hl 2 rfl) ?_
      refine gM_model_knownCodes X I tb_722 dX10_sought_129 ?_
      refine lv_iload X.1 X.2.1 dX10_sought_132 (lv_at hl 0 rfl) ?_
      refine lv_lload_n X.1 X.2.1 dX10_sought_134 rfl (lv_at hl 1 rfl) ?_
      refine qM_knownCodes X I (by omega) dX10_sought_135 (fun H locs I => ?_)
      have I : In (KM G) s s.heap H locs ((ua (ua V26 16 ((((31 * di) + (7 * (cdv (f) (m_).toNat))) + ag) % 32) di) 17 ((((31 * di) + (7 * (cdv (f) (m_).toNat))) + ag) % 32) (cdv (f) (m_).toNat)), S.2) := I
      refine lv_aload_n X.1 X.2.1 dX10_sought_136 rfl (lv_at hl 2 rfl) ?_
      refine gM_model_knownAges X I tb_723 dX10_sought_137 ?_
      refine lv_iload X.1 X.2.1 dX10_sought_140 (lv_at hl 0 rfl) ?_
      refine lv_aload_n X.1 X.2.1 dX10_sought_142 rfl (lv_at hl 2 rfl) ?_
      refine gM_model_age X I (v := ag) (by show (ua (ua V26 16 ((((31 * di) + (7 * (cdv (f) (m_).toNat))) + ag) % 32) di) 17 ((((31 * di) + (7 * (cdv (f) (m_).toNat))) + ag) % 32) (cdv (f) (m_).toNat)) 57 0 = _; rw [ua_nc (by decide), ua_nc (by decide)]; exact ((hW33 57 0 (by omega) (by omega) (by omega)).trans ((hTf 57 0 (by omega) (by omega)).trans (by show (us S.1 59 ((S.1 59 0) + 1)) 57 0 = _; rw [us_nc (by decide)]; exact e_ag)))) tb_715 dX10_sought_143 ?_
      refine qM_knownAges X I (by omega) dX10_sought_146 (fun H locs I => ?_)
      have I : In (KM G) s s.heap H locs ((ua (ua (ua V26 16 ((((31 * di) + (7 * (cdv (f) (m_).toNat))) + ag) % 32) di) 17 ((((31 * di) + (7 * (cdv (f) (m_).toNat))) + ag) % 32) (cdv (f) (m_).toNat)) 18 ((((31 * di) + (7 * (cdv (f) (m_).toNat))) + ag) % 32) ag), S.2) := I
      refine lv_aload_n X.1 X.2.1 dX10_sought_147 rfl (lv_at hl 2 rfl) ?_
      refine gM_model_knownScores X I tb_724 dX10_sought_148 ?_
      refine lv_iload X.1 X.2.1 dX10_sought_151 (lv_at hl 0 rfl) ?_
      refine lv_aload_n X.1 X.2.1 dX10_sought_153 rfl (lv_at hl 2 rfl) ?_
      refine gM_model_bestWorth X I (v := (resS (fun z_ => (sa) (12 * x + z_)) (f) kd b_ r_ g_ n_ m_).2.1) (by show (ua (ua (ua V26 16 ((((31 * di) + (7 * (cdv (f) (m_).toNat))) + ag) % 32) di) 17 ((((31 * di) + (7 * (cdv (f) (m_).toNat))) + ag) % 32) (cdv (f) (m_).toNat)) 18 ((((31 * di) + (7 * (cdv (f) (m_).toNat))) + ag) % 32) ag) 63 0 = _; rw [ua_nc (by decide), ua_nc (by decide), ua_nc (by decide)]; exact hW29) tb_729 dX10_sought_154 ?_
      refine qM_knownScores X I (by omega) dX10_sought_157 (fun H locs I => ?_)
      have I : In (KM G) s s.heap H locs ((ua (ua (ua (ua V26 16 ((((31 * di) + (7 * (cdv (f) (m_).toNat))) + ag) % 32) di) 17 ((((31 * di) + (7 * (cdv (f) (m_).toNat))) + ag) % 32) (cdv (f) (m_).toNat)) 18 ((((31 * di) + (7 * (cdv (f) (m_).toNat))) + ag) % 32) ag) 19 ((((31 * di) + (7 * (cdv (f) (m_).toNat))) + ag) % 32) (resS (fun z_ => (sa) (12 * x + z_)) (f) kd b_ r_ g_ n_ m_).2.1), S.2) := I
      refine lv_aload_n X.1 X.2.1 dX10_sought_158 rfl (lv_at hl 2 rfl) ?_
      refine gM_model_bestWorth X I (v := (resS (fun z_ => (sa) (12 * x + z_)) (f) kd b_ r_ g_ n_ m_).2.1) (by show (ua (ua (ua (ua V26 16 ((((31 * di) + (7 * (cdv (f) (m_).toNat))) + ag) % 32) di) 17 ((((31 * di) + (7 * (cdv (f) (m_).toNat))) + ag) % 32) (cdv (f) (m_).toNat)) 18 ((((31 * di) + (7 * (cdv (f) (m_).toNat))) + ag) % 32) ag) 19 ((((31 * di) + (7 * (cdv (f) (m_).toNat))) + ag) % 32) (resS (fun z_ => (sa) (12 * x + z_)) (f) kd b_ r_ g_ n_ m_).2.1) 63 0 = _; rw [ua_nc (by decide), ua_nc (by decide), ua_nc (by decide), ua_nc (by decide)]; exact hW29) tb_729 dX10_sought_159 ?_
      exact rt_i X hr hlk I rfl (by exact ⟨rfl, fun c_ i h1 h2 h3 => by rw [skM_n hno]; exact ua4_congr ((hW33 c_ i (by omega) (by omega) h3).trans (hTf c_ i (by omega) h2)), by rw [skM_n hno]⟩) dX10_sought_162
    · skip
      refine lv_aload_n X.1 X.2.1 dX10_sought_63 rfl (lv_at hl 2 rfl) ?_
      refine gM_model_knownAges X I tb_723 dX10_sought_64 ?_
      refine lv_iload X.1 X.2.1 dX10_sought_67 (lv_at hl 0 rfl) ?_
      refine aM_knownAges X I (v := (S.1 18 ((((31 * di) + (7 * (cdv (f) (m_).toNat))) + ag) % 32))) rfl (by omega) dX10_sought_69 ?_
      refine lv_aload_n X.1 X.2.1 dX10_sought_70 rfl (lv_at hl 2 rfl) ?_
      refine gM_model_age X I (v := ag) e_ag tb_715 dX10_sought_71 ?_
      refine rj_ne (tgt := 95) X (by omega) (by omega) dX10_sought_74 (by decide) (fun c34 => ?_) (fun c34 => ?_)
      · skip
        have hno : ¬ (S.1 16 ((((31 * di) + (7 * (cdv f m_.toNat))) + ag) % 32) = di ∧ S.1 17 ((((31 * di) + (7 * (cdv f m_.toNat))) + ag) % 32) = (cdv f m_.toNat) ∧ S.1 18 ((((31 * di) + (7 * (cdv f m_.toNat))) + ag) % 32) = ag) := by omega
        refine lv_aload_n X.1 X.2.1 dX10_sought_95 rfl (lv_at hl 2 rfl) ?_
        refine lv_dup X.1 X.2.1 dX10_sought_96 rfl ?_
        refine gM_model_misses X I (v := (S.1 59 0)) rfl tb_717 dX10_sought_97 ?_
        refine ri_const X (v := 1) dX10_sought_100 ?_
        refine ri_add X (v := ((S.1 59 0) + 1)) rfl dX10_sought_101 ?_
        refine pM_model_misses X I tb_717 dX10_sought_102 (fun H locs I => ?_)
        have I : In (KM G) s s.heap H locs ((us S.1 59 ((S.1 59 0) + 1)), S.2) := I
        refine lv_aload_n X.1 X.2.1 dX10_sought_105 rfl (lv_at hl 2 rfl) ?_
        refine cl_v I (runV (As := []) (rest := []) X (k_X10_triesWord l G ((us S.1 59 ((S.1 59 0) + 1)), S.2)  m_ (f) (by show (us S.1 59 ((S.1 59 0) + 1)) 53 0 = _; rw [us_nc (by decide)]; exact e_m_) (fun i_ => (by show (us S.1 59 ((S.1 59 0) + 1)) 12 i_ = _; rw [us_nc (by decide)]; exact (e_f i_))) hwd.1 hwd.2) (gdC tb_932 (gdC tb_934 (gdC tb_22 (gdC tb_48 (gdC tb_935 gdB))))) ⟨ok_X10_triesWord, ⟨Nat.le_of_ble_eq_true rfl, Nat.le_of_ble_eq_true rfl⟩, rfl, rfl⟩ (PreV.of (C := RX10) (T := TX10) (N := 41) I (atM_model) rfl) rfl hl.1 rfl (Nat.le_of_ble_eq_true rfl) dX10_sought_106 ⟨Nat.zero_le _, Nat.zero_le _⟩) (fun S36 H locs q37 I => ?_)
        obtain ⟨hT2, hT62, hTw, hTf⟩ := q37
        obtain ⟨T1, T2⟩ := S36
        dsimp only at hT2 hT62 hTw hTf
        subst hT2
        refine lv_aload_n X.1 X.2.1 dX10_sought_109 rfl (lv_at hl 2 rfl) ?_
        refine lv_iload_n X.1 X.2.1 dX10_sought_110 rfl (lv_at hl 3 rfl) ?_
        refine cl_i I (runV (As := [.int (iI x)]) (rest := []) X (k_X10_waysOf l G (T1, S.2)  x (sa) kd n_ m_ (T1 20) b_ r_ g_ (fun i_ => ((hTf 2 i_ (by omega) (by omega)).trans (by show (us S.1 59 ((S.1 59 0) + 1)) 2 i_ = _; rw [us_nc (by decide)]; exact (e_sa i_)))) ((hTf 4 x (by omega) (by omega)).trans (by show (us S.1 59 ((S.1 59 0) + 1)) 4 x = _; rw [us_nc (by decide)]; exact e_kd)) ((hTf 3 x (by omega) (by omega)).trans (by show (us S.1 59 ((S.1 59 0) + 1)) 3 x = _; rw [us_nc (by decide)]; exact e_n_)) hT62 (fun i_ => rfl) ((hTf 7 0 (by omega) (by omega)).trans (by show (us S.1 59 ((S.1 59 0) + 1)) 7 0 = _; rw [us_nc (by decide)]; exact e_b_)) ((hTf 7 1 (by omega) (by omega)).trans (by show (us S.1 59 ((S.1 59 0) + 1)) 7 1 = _; rw [us_nc (by decide)]; exact e_r_)) ((hTf 7 2 (by omega) (by omega)).trans (by show (us S.1 59 ((S.1 59 0) + 1)) 7 2 = _; rw [us_nc (by decide)]; exact e_g_)) (by omega) hkd hn_ hs hwd.1 (fun j a b => by first | (rw [hTw j a b]; exact hwd.2 j a b) | exact hwd.2 j a b) hb hr_ hg) (gdC tb_936 (gdC tb_938 (gdC tb_23 (gdC tb_48 (gdC tb_939 gdB))))) ⟨ok_X10_waysOf, ⟨Nat.le_of_ble_eq_true rfl, Nat.le_of_ble_eq_true rfl⟩, rfl, rfl⟩ (PreV.of (C := RX10) (T := TX10) (N := 41) I (atM_model) rfl) rfl hl.1 rfl (Nat.le_of_ble_eq_true rfl) dX10_sought_111 ⟨Nat.zero_le _, Nat.zero_le _⟩) (fun r38 S39 H locs q40 I => ?_)
        obtain ⟨hW42, hW43, hW44, hW45, hW46, hW47, hW48⟩ := q40
        rw [resS_congr hTw] at hW42 hW44 hW45
        obtain ⟨V41, V2⟩ := S39
        dsimp only at hW43 hW44 hW45 hW47 hW48
        subst hW43
        subst hW42
        refine lv_pop X.1 X.2.1 dX10_sought_114 rfl ?_
        refine lv_aload_n X.1 X.2.1 dX10_sought_115 rfl (lv_at hl 2 rfl) ?_
        refine gM_model_knownIds X I tb_721 dX10_sought_116 ?_
        refine lv_iload X.1 X.2.1 dX10_sought_119 (lv_at hl 0 rfl) ?_
        refine lv_aload_n X.1 X.2.1 dX10_sought_121 rfl (lv_at hl 2 rfl) ?_
        refine gM_model_ids X I tb_700 dX10_sought_122 ?_
        refine lv_iload_n X.1 X.2.1 dX10_sought_125 rfl (lv_at hl 3 rfl) ?_
        refine aM_ids X I (v := di) ((hW48 5 x (by omega) (by omega) (by omega)).trans ((hTf 5 x (by omega) (by omega)).trans (by show (us S.1 59 ((S.1 59 0) + 1)) 5 x = _; rw [us_nc (by decide)]; exact e_di))) (by omega) dX10_sought_126 ?_
        refine qM_knownIds X I (by omega) dX10_sought_127 (fun H locs I => ?_)
        have I : In (KM G) s s.heap H locs ((ua V41 16 ((((31 * di) + (7 * (cdv (f) (m_).toNat))) + ag) % 32) di), S.2) := I
        refine lv_aload_n X.1 X.2.1 dX10_sought_128 rfl (lv_at hl 2 rfl) ?_
        refine gM_model_knownCodes X I tb_722 dX10_sought_129 ?_
        refine lv_iload X.1 X.2.1 dX10_sought_132 (lv_at hl 0 rfl) ?_
        refine lv_lload_n X.1 X.2.1 dX10_sought_134 rfl (lv_at hl 1 rfl) ?_
        refine qM_knownCodes X I (by omega) dX10_sought_135 (fun H locs I => ?_)
        have I : In (KM G) s s.heap H locs ((ua (ua V41 16 ((((31 * di) + (7 * (cdv (f) (m_).toNat))) + ag) % 32) di) 17 ((((31 * di) + (7 * (cdv (f) (m_).toNat))) + ag) % 32) (cdv (f) (m_).toNat)), S.2) := I
        refine lv_aload_n X.1 X.2.1 dX10_sought_136 rfl (lv_at hl 2 rfl) ?_
        refine gM_model_knownAges X I tb_723 dX10_sought_137 ?_
        refine lv_iload X.1 X.2.1 dX10_sought_140 (lv_at hl 0 rfl) ?_
        refine lv_aload_n X.1 X.2.1 dX10_sought_142 rfl (lv_at hl 2 rfl) ?_
        refine gM_model_age X I (v := ag) (by show (ua (ua V41 16 ((((31 * di) + (7 * (cdv (f) (m_).toNat))) + ag) % 32) di) 17 ((((31 * di) + (7 * (cdv (f) (m_).toNat))) + ag) % 32) (cdv (f) (m_).toNat)) 57 0 = _; rw [ua_nc (by decide), ua_nc (by decide)]; exact ((hW48 57 0 (by omega) (by omega) (by omega)).trans ((hTf 57 0 (by omega) (by omega)).trans (by show (us S.1 59 ((S.1 59 0) + 1)) 57 0 = _; rw [us_nc (by decide)]; exact e_ag)))) tb_715 dX10_sought_143 ?_
        refine qM_knownAges X I (by omega) dX10_sought_146 (fun H locs I => ?_)
        have I : In (KM G) s s.heap H locs ((ua (ua (ua V41 16 ((((31 * di) + (7 * (cdv (f) (m_).toNat))) + ag) % 32) di) 17 ((((31 * di) + (7 * (cdv (f) (m_).toNat))) + ag) % 32) (cdv (f) (m_).toNat)) 18 ((((31 * di) + (7 * (cdv (f) (m_).toNat))) + ag) % 32) ag), S.2) := I
        refine lv_aload_n X.1 X.2.1 dX10_sought_147 rfl (lv_at hl 2 rfl) ?_
        refine gM_model_knownScores X I tb_724 dX10_sought_148 ?_
        refine lv_iload X.1 X.2.1 dX10_sought_151 (lv_at hl 0 rfl) ?_
        refine lv_aload_n X.1 X.2.1 dX10_sought_153 rfl (lv_at hl 2 rfl) ?_
        refine gM_model_bestWorth X I (v := (resS (fun z_ => (sa) (12 * x + z_)) (f) kd b_ r_ g_ n_ m_).2.1) (by show (ua (ua (ua V41 16 ((((31 * di) + (7 * (cdv (f) (m_).toNat))) + ag) % 32) di) 17 ((((31 * di) + (7 * (cdv (f) (m_).toNat))) + ag) % 32) (cdv (f) (m_).toNat)) 18 ((((31 * di) + (7 * (cdv (f) (m_).toNat))) + ag) % 32) ag) 63 0 = _; rw [ua_nc (by decide), ua_nc (by decide), ua_nc (by decide)]; exact hW44) tb_729 dX10_sought_154 ?_
        refine qM_knownScores X I (by omega) dX10_sought_157 (fun H locs I => ?_)
        have I : In (KM G) s s.heap H locs ((ua (ua (ua (ua V41 16 ((((31 * di) + (7 * (cdv (f) (m_).toNat))) + ag) % 32) di) 17 ((((31 * di) + (7 * (cdv (f) (m_).toNat))) + ag) % 32) (cdv (f) (m_).toNat)) 18 ((((31 * di) + (7 * (cdv (f) (m_).toNat))) + ag) % 32) ag) 19 ((((31 * di) + (7 * (cdv (f) (m_).toNat))) + ag) % 32) (resS (fun z_ => (sa) (12 * x + z_)) (f) kd b_ r_ g_ n_ m_).2.1), S.2) := I
        refine lv_aload_n X.1 X.2.1 dX10_sought_158 rfl (lv_at hl 2 rfl) ?_
        refine gM_model_bestWorth X I (v := (resS (fun z_ => (sa) (12 * x + z_)) (f) kd b_ r_ g_ n_ m_).2.1) (by show (ua (ua (ua (ua V41 16 ((((31 * di) + (7 * (cdv (f) (m_).toNat))) + ag) % 32) di) 17 ((((31 * di) + (7 * (cdv (f) (m_).toNat))) + ag) % 32) (cdv (f) (m_).toNat)) 18 ((((31 * di) + (7 * (cdv (f) (m_).toNat))) + ag) % 32) ag) 19 ((((31 * di) + (7 * (cdv (f) (m_).toNat))) + ag) % 32) (resS (fun z_ => (sa) (12 * x + z_)) (f) kd b_ r_ g_ n_ m_).2.1) 63 0 = _; rw [ua_nc (by decide), ua_nc (by decide), ua_nc (by decide), ua_nc (by decide)]; exact hW44) tb_729 dX10_sought_159 ?_
        exact rt_i X hr hlk I rfl (by exact ⟨rfl, fun c_ i h1 h2 h3 => by rw [skM_n hno]; exact ua4_congr ((hW48 c_ i (by omega) (by omega) h3).trans (hTf c_ i (by omega) h2)), by rw [skM_n hno]⟩) dX10_sought_162
      · skip
        refine lv_aload_n X.1 X.2.1 dX10_sought_77 rfl (lv_at hl 2 rfl) ?_
        refine lv_dup X.1 X.2.1 dX10_sought_78 rfl ?_
        refine gM_model_hits X I (v := (S.1 58 0)) rfl tb_716 dX10_sought_79 ?_
        refine ri_const X (v := 1) dX10_sought_82 ?_
        refine ri_add X (v := ((S.1 58 0) + 1)) rfl dX10_sought_83 ?_
        refine pM_model_hits X I tb_716 dX10_sought_84 (fun H locs I => ?_)
        have I : In (KM G) s s.heap H locs ((us S.1 58 ((S.1 58 0) + 1)), S.2) := I
        refine lv_aload_n X.1 X.2.1 dX10_sought_87 rfl (lv_at hl 2 rfl) ?_
        refine gM_model_knownScores X I tb_724 dX10_sought_88 ?_
        refine lv_iload X.1 X.2.1 dX10_sought_91 (lv_at hl 0 rfl) ?_
        refine aM_knownScores X I (v := (S.1 19 ((((31 * di) + (7 * (cdv (f) (m_).toNat))) + ag) % 32))) (by show (us S.1 58 ((S.1 58 0) + 1)) 19 ((((31 * di) + (7 * (cdv (f) (m_).toNat))) + ag) % 32) = _; rw [us_nc (by decide)]) (by omega) dX10_sought_93 ?_
        exact rt_i X hr hlk I rfl (by exact ⟨rfl, fun c_ i _ _ _ => by rw [skM_y ⟨by omega, by omega, by omega⟩], by rw [skM_y ⟨by omega, by omega, by omega⟩]⟩) dX10_sought_94

theorem ok_X10_score : yX10_score.cls ≠ "java/lang/invoke/MethodHandle" ∧ yX10_score.cls ≠ "java/lang/invoke/VarHandle" ∧ (parseMethodDescriptor yX10_score.desc).map (fun d => d.parameters.length) = some 1 := ⟨by decide +kernel, by decide +kernel, by decide +kernel⟩
abbrev po_X10_score (S : St)  (x : Int) : Int → St → Prop := fun r S1 => (¬ (0 ≤ x ∧ x < S.1 51 0) ∧ r = -1 ∧ S1 = S) ∨ ((0 ≤ x ∧ x < S.1 51 0) ∧ S1.2 = S.2 ∧ (∀ (c_ : Nat) (i : Int), ¬ (20 ≤ c_ ∧ c_ ≤ 22) → ¬ c_ = 62 → ¬ c_ = 63 → S1.1 c_ i = (skM S.1 (S.1 5 x) (S.1 57 0) (cdv (S.1 12) (S.1 53 0).toNat) (resS (fun z_ => (S.1 2) (12 * x + z_)) (S.1 12) (S.1 4 x) (S.1 7 0) (S.1 7 1) (S.1 7 2) (S.1 3 x) (S.1 53 0)).2.1).1 c_ i) ∧ r = (skM S.1 (S.1 5 x) (S.1 57 0) (cdv (S.1 12) (S.1 53 0).toNat) (resS (fun z_ => (S.1 2) (12 * x + z_)) (S.1 12) (S.1 4 x) (S.1 7 0) (S.1 7 1) (S.1 7 2) (S.1 3 x) (S.1 53 0)).2.1).2)
abbrev rm_X10_score : Room := ({ frames := 6, cells := 0, slots := 0, locals := 135 } : Room)
set_option maxRecDepth 100000 in
set_option maxHeartbeats 4000000 in
theorem k_X10_score (l : Launch) (G : Ge) (S : St)  (x : Int)  (hx : -2147483648 ≤ x ∧ x < 2147483648) (hI : MI S.1) : Ki (KM G) l yX10_score cX10_score 2 .int rm_X10_score [.ref (G.2.2 0), .int (iI x)] S (po_X10_score S x) := by
  refine K_start (own := "NameSeekerModel") (by decide +kernel) rfl (Nat.le_of_ble_eq_true rfl) ?_
  intro p e s m args below meth c X hr hlk I ls hl
  have hl : lv_has ls 2 [(0, .ref (G.2.2 0)), (1, .int (iI x))] := hl
  obtain ⟨ht, hc, hn, hnm, hw, hwd, hkp, hcn, has, hkn⟩ := hI
  refine lv_aload_n X.1 X.2.1 dX10_score_0 rfl (lv_at hl 0 rfl) ?_
  refine lv_iload_n X.1 X.2.1 dX10_score_1 rfl (lv_at hl 1 rfl) ?_
  refine cl_i I (runV (As := [.int (iI x)]) (rest := []) X (k_X10_isName l G S  x (S.1 51 0) rfl (by omega) (by omega)) (gdC tb_867 (gdC tb_869 (gdC tb_18 (gdC tb_48 (gdC tb_870 gdB))))) ⟨ok_X10_isName, ⟨Nat.le_of_ble_eq_true rfl, Nat.le_of_ble_eq_true rfl⟩, rfl, rfl⟩ (PreV.of (C := RX10) (T := TX10) (N := 41) I (atM_model) rfl) rfl hl.1 rfl (Nat.le_of_ble_eq_true rfl) dX10_score_2 ⟨Nat.zero_le _, Nat.zero_le _⟩) (fun r1 S2 H locs q3 I => ?_)
  obtain ⟨e1_, e2_⟩ := q3
  rw [e2_] at I
  rw [e1_]
  clear e1_ e2_
  rcases Decidable.em ((0 ≤ x ∧ x < (S.1 51 0))) with b4 | b4
  · rw [bI_t b4]
    refine rz_eq (tgt := 16) X (by omega) dX10_score_5 (by decide) (fun c5 => absurd c5 (by decide)) (fun _ => ?_)
    have hnx := hnm x (by omega) (by omega)
    obtain ⟨hn1, hn2, hn3, hn4, hn5⟩ := hnx
    have hw0 := hw 0 (by omega) (by omega)
    have hw1 := hw 1 (by omega) (by omega)
    have hw2 := hw 2 (by omega) (by omega)
    have hKN : KN S.1 := fun q a b => by have := hkn q a b; omega
    have hag : 0 ≤ S.1 57 0 ∧ S.1 57 0 ≤ 100000 := by omega
    refine lv_aload_n X.1 X.2.1 dX10_score_8 rfl (lv_at hl 0 rfl) ?_
    refine lv_iload_n X.1 X.2.1 dX10_score_9 rfl (lv_at hl 1 rfl) ?_
    refine cl_i I (runV (As := [.int (iI x)]) (rest := []) X (k_X10_sought l G S  x (S.1 5 x) (S.1 57 0) (S.1 53 0) (S.1 12) (S.1 2) (S.1 4 x) (S.1 3 x) (S.1 7 0) (S.1 7 1) (S.1 7 2) rfl rfl rfl (fun i_ => rfl) (fun i_ => rfl) rfl rfl rfl rfl rfl (by omega) hn3 hag hwd hn2 hn1 hn5 hw0 hw1 hw2 hKN) (gdC tb_920 (gdC tb_922 (gdC tb_20 (gdC tb_48 (gdC tb_923 gdB))))) ⟨ok_X10_sought, ⟨Nat.le_of_ble_eq_true rfl, Nat.le_of_ble_eq_true rfl⟩, rfl, rfl⟩ (PreV.of (C := RX10) (T := TX10) (N := 41) I (atM_model) rfl) rfl hl.1 rfl (Nat.le_of_ble_eq_true rfl) dX10_score_10 ⟨Nat.zero_le _, Nat.zero_le _⟩) (fun r6 S7 H locs q8 I => ?_)
    obtain ⟨hK2, hKf, hKr⟩ := q8
    obtain ⟨V1, V2⟩ := S7
    dsimp only at hK2 hKf hKr
    subst hK2
    rw [hKr]
    refine lv_goto (tgt := 17) X.1 X.2.1 dX10_score_13 (by decide) ?_
    exact rt_i X hr hlk I rfl (by first | exact Or.inl ⟨by assumption, rfl, rfl⟩ | exact Or.inr ⟨by assumption, rfl, hKf, rfl⟩) dX10_score_17
  · rw [bI_f b4]
    refine rz_eq (tgt := 16) X (by omega) dX10_score_5 (by decide) (fun _ => ?_) (fun c9 => absurd c9 (fun q => q (by decide)))
    refine ri_const X (v := (-1)) dX10_score_16 ?_
    exact rt_i X hr hlk I rfl (by first | exact Or.inl ⟨by assumption, rfl, rfl⟩ | exact Or.inr ⟨by assumption, rfl, hKf, rfl⟩) dX10_score_17
