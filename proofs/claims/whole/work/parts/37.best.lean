/-! the best of the rows, and the table's -/
def mx {α : Type} : Option (Int × α) → Option (Int × α) → Option (Int × α)
  | none, y => y
  | some x, none => some x
  | some x, some y => if x.1 < y.1 then some y else some x
theorem mx_n {α : Type} (x : Option (Int × α)) : mx x none = x := by cases x <;> rfl
theorem mx_a {α : Type} (x y z : Option (Int × α)) : mx (mx x y) z = mx x (mx y z) := by
  cases x with
  | none => rfl
  | some a =>
    cases y with
    | none => rfl
    | some b =>
      cases z with
      | none => rw [mx_n, mx_n]
      | some c =>
        show mx (if a.1 < b.1 then some b else some a) (some c) = mx (some a) (if b.1 < c.1 then some c else some b)
        by_cases h1 : a.1 < b.1
        · by_cases h2 : b.1 < c.1
          · rw [if_pos h1, if_pos h2]; show (if b.1 < c.1 then _ else _) = (if a.1 < c.1 then _ else _); rw [if_pos h2, if_pos (by omega)]
          · rw [if_pos h1, if_neg h2]; show (if b.1 < c.1 then _ else _) = (if a.1 < b.1 then _ else _); rw [if_neg h2, if_pos h1]
        · by_cases h2 : b.1 < c.1
          · rw [if_neg h1, if_pos h2]
          · rw [if_neg h1, if_neg h2]; show (if a.1 < c.1 then _ else _) = (if a.1 < b.1 then _ else _); rw [if_neg h1, if_neg (by omega)]
theorem mx_map {α β : Type} {c : Int} {g : α → β} (x y : Option (Int × α)) : (mx x y).map (fun p => (c + p.1, g p.2)) = mx (x.map (fun p => (c + p.1, g p.2))) (y.map (fun p => (c + p.1, g p.2))) := by
  cases x with
  | none => rfl
  | some a =>
    cases y with
    | none => rfl
    | some b =>
      show Option.map _ (if a.1 < b.1 then some b else some a) = (if c + a.1 < c + b.1 then _ else _)
      by_cases h : a.1 < b.1
      · rw [if_pos h, if_pos (by omega)]; rfl
      · rw [if_neg h, if_neg (by omega)]; rfl
def bst (W : List Int → Int) : List (List Int) → Option (Int × List Int)
  | [] => none
  | r :: l => mx (some (W r, r)) (bst W l)
theorem bst_app (W : List Int → Int) : ∀ l k : List (List Int), bst W (l ++ k) = mx (bst W l) (bst W k)
  | [], k => rfl
  | r :: l, k => by rw [List.cons_append, bst, bst, bst_app W l k, mx_a]
theorem bst_shift {W V : List Int → Int} {c : Int} : ∀ l : List (List Int), (∀ r ∈ l, V r = c + W r) → bst V l = (bst W l).map (fun p => (c + p.1, id p.2))
  | [], _ => rfl
  | r :: l, h => by
    rw [bst, bst, bst_shift l (fun r hr => h r (List.mem_cons_of_mem _ hr)), mx_map, h r List.mem_cons_self]; rfl
theorem bst_map {W : List Int → Int} {q : Int} : ∀ l : List (List Int), bst W (l.map (q :: ·)) = (bst (fun r => W (q :: r)) l).map (fun p => ((0 : Int) + p.1, q :: p.2))
  | [] => rfl
  | r :: l => by
    have e := mx_map (c := 0) (g := fun z : List Int => q :: z) (some (W (q :: r), r)) (bst (fun r => W (q :: r)) l)
    rw [List.map_cons, bst, bst, bst_map l, e]
    show mx (some (W (q :: r), q :: r)) _ = mx (some ((0 : Int) + W (q :: r), q :: r)) _
    rw [Int.zero_add]
theorem fw_bst (W : List Int → Int) : ∀ (l : List (List Int)) (c v : Int) (b : List Int), 0 < c → some (fw W l c v b).2 = mx (some (v, b)) (bst W l)
  | [], c, v, b, _ => rfl
  | r :: l, c, v, b, h => by
    rw [fw, bst, ← mx_a]
    show _ = mx (if v < W r then some (W r, r) else some (v, b)) _
    by_cases q : v < W r
    · rw [if_pos (Or.inr q), if_pos q]; exact fw_bst W l _ _ _ (by omega)
    · rw [if_neg (by omega), if_neg q]; exact fw_bst W l _ _ _ (by omega)
theorem fw_bst0 (W : List Int → Int) (r : List Int) (l : List (List Int)) (v : Int) (b : List Int) : some (fw W (r :: l) 0 v b).2 = bst W (r :: l) := by
  rw [fw, if_pos (Or.inl rfl), bst]
  exact fw_bst W l _ _ _ (by omega)
/-- the first place of the greatest value, from place q on -/
def scn (V : Int → Option Int) : Nat → Int → Option (Int × Int)
  | 0, _ => none
  | k + 1, q => mx ((V q).map (fun v => (v, q))) (scn V k (q + 1))
theorem nxl_scn {T c : Int → Int} : ∀ (k : Nat) (q gr nx : Int), 0 ≤ q → mx (if nx = -1 then none else some (gr, nx)) (scn (fun x => if T x = -4 then none else some (T x + c x)) k q) = (if (nxl T c k q gr nx).2 = -1 then none else some (nxl T c k q gr nx))
  | 0, q, gr, nx, _ => by rw [scn, mx_n, nxl]
  | k + 1, q, gr, nx, h => by
    rw [scn, nxl]
    by_cases hT : T q = -4
    · rw [if_pos hT, if_pos hT]
      exact nxl_scn k (q + 1) gr nx (by omega)
    · rw [if_neg hT, if_neg hT]
      have ih := nxl_scn (T := T) (c := c) k (q + 1)
      show mx _ (mx (some (T q + c q, q)) _) = _
      rw [← mx_a]
      by_cases h2 : nx = -1 ∨ gr < T q + c q
      · rw [if_pos h2, ← ih (T q + c q) q (by omega), if_neg (show ¬ q = -1 by omega)]
        congr 1
        by_cases h3 : nx = -1
        · rw [if_pos h3]; rfl
        · rw [if_neg h3]; show (if gr < T q + c q then _ else _) = _; rw [if_pos (by omega)]
      · rw [if_neg h2, ← ih gr nx (by omega)]
        congr 1
        rw [if_neg (fun z => h2 (Or.inl z))]
        show (if gr < T q + c q then _ else _) = _
        rw [if_neg (fun z => h2 (Or.inr z))]
theorem gbf_scn {T : Int → Int} : ∀ (k : Nat) (q gr bf : Int), 0 ≤ q → (∀ i : Int, q ≤ i → i < q + k → T i = -4 ∨ -4 < T i) → (bf = -1 ∧ gr = -4) ∨ (¬ bf = -1 ∧ -4 < gr) → mx (if bf = -1 then none else some (gr, bf)) (scn (fun x => if T x = -4 then none else some (T x)) k q) = (if (gbf T k q gr bf).2 = -1 then none else some (gbf T k q gr bf)) ∧ (((gbf T k q gr bf).2 = -1 ∧ (gbf T k q gr bf).1 = -4) ∨ (¬ (gbf T k q gr bf).2 = -1 ∧ -4 < (gbf T k q gr bf).1))
  | 0, q, gr, bf, _, _, h => by rw [scn, mx_n, gbf]; exact ⟨rfl, h⟩
  | k + 1, q, gr, bf, h, hT, hs => by
    rw [scn, gbf]
    have hq := hT q (by omega) (by omega)
    by_cases h4 : T q = -4
    · rw [if_pos h4, if_neg (show ¬ gr < T q by omega)]
      exact gbf_scn k (q + 1) gr bf (by omega) (fun i a b => hT i (by omega) (by omega)) hs
    · rw [if_neg h4]
      show mx _ (mx (some (T q, q)) _) = _ ∧ _
      rw [← mx_a]
      by_cases h2 : gr < T q
      · rw [if_pos h2]
        have ih := gbf_scn k (q + 1) (T q) q (by omega) (fun i a b => hT i (by omega) (by omega)) (Or.inr ⟨by omega, by omega⟩)
        refine ⟨?_, ih.2⟩
        rw [← ih.1, if_neg (show ¬ q = -1 by omega)]
        congr 1
        by_cases h3 : bf = -1
        · rw [if_pos h3]; rfl
        · rw [if_neg h3]; show (if gr < T q then _ else _) = _; rw [if_pos h2]
      · rw [if_neg h2]
        have ih := gbf_scn k (q + 1) gr bf (by omega) (fun i a b => hT i (by omega) (by omega)) hs
        refine ⟨?_, ih.2⟩
        rw [← ih.1]
        congr 1
        rw [if_neg (by omega)]
        show (if gr < T q then _ else _) = _
        rw [if_neg h2]
/-- a row by the table's next places -/
def rowd (t : Nat → Int → Int × Int) : Nat → Int → List Int
  | 0, x => [x]
  | d + 1, x => x :: rowd t d (t (d + 1) x).2
section DP
variable {s f : Int → Int} {kd b r g n m : Int}
theorem tlr_v (hB : 0 ≤ b ∧ b ≤ 9) (hR : 0 ≤ r ∧ r ≤ 9) (hG : 0 ≤ g ∧ g ≤ 9) (hn : 0 ≤ n ∧ n ≤ 12) {bg : Int} {d : Nat} {q : Int} (hq : 0 ≤ q ∧ q < n) (ih : ∀ x : Int, 0 ≤ x → x < n → (tlr s f kd bg b r g n m d x).1 = -4 ∨ (50 * ((d : Int) + 1) - 9 * (n - 1 - x - d) ≤ (tlr s f kd bg b r g n m d x).1 ∧ x + d ≤ n - 1 ∧ (d = 0 → 50 ≤ (tlr s f kd bg b r g n m d x).1))) (hx : ¬ (nxl (fun x => (tlr s f kd bg b r g n m d x).1) (ost kd r g q) (n - (q + 1)).toNat (q + 1) 0 (-1)).2 = -1) :
    50 * ((d : Int) + 2) - 9 * (n - 2 - q - d) ≤ opl bg kd b q + (nxl (fun x => (tlr s f kd bg b r g n m d x).1) (ost kd r g q) (n - (q + 1)).toNat (q + 1) 0 (-1)).1 ∧ q + (d + 1) ≤ n - 1 := by
  have h1 := opl_r (bg := bg) (k := kd) (q := q) hB
  rcases nxl_mem (T := fun x => (tlr s f kd bg b r g n m d x).1) (c := ost kd r g q) (n - (q + 1)).toNat (q + 1) 0 (-1) with e | ⟨m1, m2, m3, m4⟩
  · rw [e] at hx; exact absurd rfl hx
  · generalize (nxl (fun x => (tlr s f kd bg b r g n m d x).1) (ost kd r g q) (n - (q + 1)).toNat (q + 1) 0 (-1)) = R at *
    have h2 := ih R.2 (by omega) (by omega)
    have h3 := ost_r (k := kd) (q := q) (x := R.2) hR hG (by omega) (by omega)
    omega
theorem tlr_lb (hB : 0 ≤ b ∧ b ≤ 9) (hR : 0 ≤ r ∧ r ≤ 9) (hG : 0 ≤ g ∧ g ≤ 9) (hn : 0 ≤ n ∧ n ≤ 12) {bg : Int} : ∀ (d : Nat) (q : Int), 0 ≤ q → q < n → (tlr s f kd bg b r g n m d q).1 = -4 ∨ (50 * ((d : Int) + 1) - 9 * (n - 1 - q - d) ≤ (tlr s f kd bg b r g n m d q).1 ∧ q + d ≤ n - 1 ∧ (d = 0 → 50 ≤ (tlr s f kd bg b r g n m d q).1))
  | 0, q, h0, h1 => by
    have h2 := opl_r (bg := bg) (k := kd) (q := q) hB
    rw [tlr, rw1]
    split
    · rw [if_pos rfl]; right; dsimp only; omega
    · left; rfl
  | d + 1, q, h0, h1 => by
    have hv := tlr_v (s := s) (f := f) (kd := kd) (m := m) hB hR hG hn (bg := bg) (d := d) ⟨h0, h1⟩ (fun x a b => tlr_lb hB hR hG hn d x a b)
    rw [tlr, rw1]
    split
    · rw [if_neg (by omega)]
      dsimp only
      split
      · left; rfl
      · rename_i hx
        have := hv hx
        right
        refine ⟨by omega, by omega, fun z => absurd z (by omega)⟩
    · left; rfl
theorem tlr_gt (hB : 0 ≤ b ∧ b ≤ 9) (hR : 0 ≤ r ∧ r ≤ 9) (hG : 0 ≤ g ∧ g ≤ 9) (hn : 0 ≤ n ∧ n ≤ 12) {bg : Int} (d : Nat) (q : Int) (h0 : 0 ≤ q) (h1 : q < n) : (tlr s f kd bg b r g n m d q).1 = -4 ∨ -4 < (tlr s f kd bg b r g n m d q).1 := by
  rcases tlr_lb (s := s) (f := f) (kd := kd) (m := m) hB hR hG hn (bg := bg) d q h0 h1 with h | ⟨h2, h3, h4⟩
  · exact Or.inl h
  · right
    by_cases z : d = 0
    · have := h4 z; omega
    · omega
/-- the rows whose first place is q -/
def hdr (s f : Int → Int) (kd n m : Int) (d : Nat) (q : Int) : List (List Int) := if alS s kd f (m - 1 - d) q then (wl (alS s kd f) (n - q - 1).toNat d (m - d) (q + 1)).map (q :: ·) else []
theorem bst_scn {T : Int → Int → Int} {P : Int → Int} {t : Nat → Int → Int × Int} {q : Int} {d : Nat} (hd : (d : Int) + 1 ≤ m) (hrow : ∀ x : Int, 0 ≤ x → x < n → bst (rwt P T) (hdr s f kd n m d x) = if (t d x).1 = -4 then none else some ((t d x).1, rowd t d x)) : ∀ (w : Nat) (lo : Int), 0 ≤ lo → lo + w = n → bst (fun z => rwt P T (q :: z)) (wl (alS s kd f) w (d + 1) (m - 1 - d) lo) = (scn (fun x => if (t d x).1 = -4 then none else some ((t d x).1 + T q x)) w lo).map (fun p => (P q + p.1, rowd t d p.2))
  | 0, lo, _, _ => by rw [wl, scn]; rfl
  | w + 1, lo, h0, h1 => by
    have h := hrow lo h0 (by omega)
    unfold hdr at h
    rw [show (n - lo - 1).toNat = w by omega, show m - d = m - 1 - d + 1 by omega] at h
    rw [wl, scn, bst_app, bst_scn hd hrow w (lo + 1) (by omega) (by omega), mx_map]
    congr 1
    have e := bst_shift (W := rwt P T) (V := fun z => rwt P T (q :: z)) (c := P q + T q lo) (if alS s kd f (m - 1 - d) lo then (wl (alS s kd f) w d (m - 1 - d + 1) (lo + 1)).map (lo :: ·) else []) (fun z hz => by
      split at hz
      · obtain ⟨y, -, rfl⟩ := List.mem_map.mp hz
        show P q + T q lo + rwt P T (lo :: y) = _
        rfl
      · cases hz)
    rw [e, h]
    by_cases z : (t d lo).1 = -4
    · rw [if_pos z, if_pos z]; rfl
    · rw [if_neg z, if_neg z]
      show some (P q + T q lo + (t d lo).1, rowd t d lo) = some (P q + ((t d lo).1 + T q lo), rowd t d lo)
      rw [show P q + T q lo + (t d lo).1 = P q + ((t d lo).1 + T q lo) by omega]
theorem bst_scn0 {T : Int → Int → Int} {P : Int → Int} {t : Nat → Int → Int × Int} {d : Nat} (hd : (d : Int) + 1 ≤ m) (hrow : ∀ x : Int, 0 ≤ x → x < n → bst (rwt P T) (hdr s f kd n m d x) = if (t d x).1 = -4 then none else some ((t d x).1, rowd t d x)) : ∀ (w : Nat) (lo : Int), 0 ≤ lo → lo + w = n → bst (rwt P T) (wl (alS s kd f) w (d + 1) (m - 1 - d) lo) = (scn (fun x => if (t d x).1 = -4 then none else some (t d x).1) w lo).map (fun p => ((0 : Int) + p.1, rowd t d p.2))
  | 0, lo, _, _ => by rw [wl, scn]; rfl
  | w + 1, lo, h0, h1 => by
    have h := hrow lo h0 (by omega)
    unfold hdr at h
    rw [show (n - lo - 1).toNat = w by omega, show m - d = m - 1 - d + 1 by omega] at h
    rw [wl, scn, bst_app, bst_scn0 hd hrow w (lo + 1) (by omega) (by omega), mx_map, h]
    congr 1
    by_cases z : (t d lo).1 = -4
    · rw [if_pos z, if_pos z]; rfl
    · rw [if_neg z, if_neg z]
      show some ((t d lo).1, rowd t d lo) = some (0 + (t d lo).1, rowd t d lo)
      rw [Int.zero_add]
theorem bst_row (hB : 0 ≤ b ∧ b ≤ 9) (hR : 0 ≤ r ∧ r ≤ 9) (hG : 0 ≤ g ∧ g ≤ 9) (hn : 0 ≤ n ∧ n ≤ 12) {bg : Int} : ∀ (d : Nat), (d : Int) + 1 ≤ m → ∀ q : Int, 0 ≤ q → q < n → bst (rwt (opl bg kd b) (ost kd r g)) (hdr s f kd n m d q) = if (tlr s f kd bg b r g n m d q).1 = -4 then none else some ((tlr s f kd bg b r g n m d q).1, rowd (tlr s f kd bg b r g n m) d q)
  | 0, hd, q, h0, h1 => by
    have h2 := opl_r (bg := bg) (k := kd) (q := q) hB
    unfold hdr
    rw [tlr, rw1, wl_0, show m - 1 - ((0 : Nat) : Int) = m - 1 by omega]
    by_cases h : alk (s q) kd (f (m - 1))
    · rw [if_pos (show alS s kd f (m - 1) q = true from decide_eq_true h), if_pos h, if_pos rfl]
      dsimp only
      rw [if_neg (by omega)]
      rfl
    · rw [if_neg (show ¬ alS s kd f (m - 1) q = true from fun z => h (of_decide_eq_true z)), if_neg h, if_pos rfl]; rfl
  | d + 1, hd, q, h0, h1 => by
    have ih := bst_row hB hR hG hn (bg := bg) d (by omega)
    have hv := tlr_v (s := s) (f := f) (kd := kd) (m := m) hB hR hG hn (bg := bg) (d := d) ⟨h0, h1⟩ (fun x a b => tlr_lb hB hR hG hn d x a b)
    have hsc := bst_scn (T := ost kd r g) (P := opl bg kd b) (t := tlr s f kd bg b r g n m) (q := q) (d := d) (by omega) ih (n - (q + 1)).toNat (q + 1) (by omega) (by omega)
    have hnx := nxl_scn (T := fun x => (tlr s f kd bg b r g n m d x).1) (c := ost kd r g q) (n - (q + 1)).toNat (q + 1) 0 (-1) (by omega)
    rw [if_pos rfl] at hnx
    have hnx : scn (fun x => if (tlr s f kd bg b r g n m d x).1 = -4 then none else some ((tlr s f kd bg b r g n m d x).1 + ost kd r g q x)) (n - (q + 1)).toNat (q + 1) = _ := hnx
    rw [hnx] at hsc
    unfold hdr
    rw [tlr.eq_2, rw1, show m - 1 - ((d + 1 : Nat) : Int) = m - 2 - d by omega, show m - ((d + 1 : Nat) : Int) = m - 1 - d by omega, show n - q - 1 = n - (q + 1) by omega]
    by_cases h : alk (s q) kd (f (m - 2 - d))
    · rw [if_pos (show alS s kd f (m - 2 - d) q = true from decide_eq_true h), if_pos h, if_neg (show ¬ ((d : Int) + 1 = 0) by omega), bst_map, hsc]
      by_cases hx : (nxl (fun x => (tlr s f kd bg b r g n m d x).1) (ost kd r g q) (n - (q + 1)).toNat (q + 1) 0 (-1)).2 = -1
      · rw [if_pos hx, if_pos hx, if_pos rfl]; rfl
      · have hb := hv hx
        rw [if_neg hx, if_neg hx, if_neg (by omega)]
        have er : rowd (tlr s f kd bg b r g n m) (d + 1) q = q :: rowd (tlr s f kd bg b r g n m) d (nxl (fun x => (tlr s f kd bg b r g n m d x).1) (ost kd r g q) (n - (q + 1)).toNat (q + 1) 0 (-1)).2 := by
          rw [rowd, tlr.eq_2, rw1, if_pos h, if_neg (by omega)]
        rw [er]
        show some ((0 : Int) + (_ + _), _) = some (_ + _, _)
        rw [Int.zero_add]
    · rw [if_neg (show ¬ alS s kd f (m - 2 - d) q = true from fun z => h (of_decide_eq_true z)), if_neg h, if_pos rfl]; rfl
/-- the table's worth and row are the rows' -/
theorem resS_w (hB : 0 ≤ b ∧ b ≤ 9) (hR : 0 ≤ r ∧ r ≤ 9) (hG : 0 ≤ g ∧ g ≤ 9) (hn : 0 ≤ n ∧ n ≤ 12) (hm : 0 ≤ m) : (resS s f kd b r g n m).2.1 = wor s f kd (bgv s n.toNat) b r g n m ∧ ((resS s f kd b r g n m).1 = 0 ↔ wor s f kd (bgv s n.toNat) b r g n m = -4) ∧ (0 < m → ¬ wor s f kd (bgv s n.toNat) b r g n m = -4 → (resS s f kd b r g n m).2.2 = rowd (tlr s f kd (bgv s n.toNat) b r g n m) (m - 1).toNat (wob s f kd (bgv s n.toNat) b r g n m) ∧ (0 ≤ wob s f kd (bgv s n.toNat) b r g n m ∧ wob s f kd (bgv s n.toNat) b r g n m < n) ∧ ¬ (tlr s f kd (bgv s n.toNat) b r g n m (m - 1).toNat (wob s f kd (bgv s n.toNat) b r g n m)).1 = -4) := by
  unfold resS wor wob
  by_cases m0 : m = 0
  · subst m0
    rw [if_pos rfl, if_pos rfl, show (0 : Int).toNat = 0 from rfl, wl_0]
    refine ⟨rfl, ⟨fun z => by rw [fw_n] at z; simp at z, fun z => absurd z (by decide)⟩, fun z => absurd z (by omega)⟩
  · rw [if_neg m0, if_neg m0]
    have hsc := bst_scn0 (s := s) (f := f) (kd := kd) (T := ost kd r g) (P := opl (bgv s n.toNat) kd b) (t := tlr s f kd (bgv s n.toNat) b r g n m) (d := (m - 1).toNat) (by omega) (bst_row hB hR hG hn _ (by omega)) n.toNat 0 (by omega) (by omega)
    have hgb := gbf_scn (T := fun x => (tlr s f kd (bgv s n.toNat) b r g n m (m - 1).toNat x).1) n.toNat 0 (-4) (-1) (by omega) (fun i a b => tlr_gt hB hR hG hn _ i a (by omega)) (Or.inl ⟨rfl, rfl⟩)
    rw [if_pos rfl] at hgb
    have hg1 : scn (fun x => if (tlr s f kd (bgv s n.toNat) b r g n m (m - 1).toNat x).1 = -4 then none else some (tlr s f kd (bgv s n.toNat) b r g n m (m - 1).toNat x).1) n.toNat 0 = _ := hgb.1
    rw [hg1, show (m - 1).toNat + 1 = m.toNat by omega, show m - 1 - (((m - 1).toNat : Nat) : Int) = 0 by omega] at hsc
    have hg2 := hgb.2
    have hmem : ∀ (k : Nat) (q gr bf : Int), gbf (fun x => (tlr s f kd (bgv s n.toNat) b r g n m (m - 1).toNat x).1) k q gr bf = (gr, bf) ∨ (q ≤ (gbf (fun x => (tlr s f kd (bgv s n.toNat) b r g n m (m - 1).toNat x).1) k q gr bf).2 ∧ (gbf (fun x => (tlr s f kd (bgv s n.toNat) b r g n m (m - 1).toNat x).1) k q gr bf).2 < q + k ∧ (gbf (fun x => (tlr s f kd (bgv s n.toNat) b r g n m (m - 1).toNat x).1) k q gr bf).1 = (tlr s f kd (bgv s n.toNat) b r g n m (m - 1).toNat (gbf (fun x => (tlr s f kd (bgv s n.toNat) b r g n m (m - 1).toNat x).1) k q gr bf).2).1) := by
      intro k
      induction k with
      | zero => intro q gr bf; left; rfl
      | succ k ih =>
        intro q gr bf
        rw [gbf]
        split
        · rcases ih (q + 1) (tlr s f kd (bgv s n.toNat) b r g n m (m - 1).toNat q).1 q with e | ⟨e1, e2, e3⟩
          · right; rw [e]; dsimp only; omega
          · right; omega
        · rcases ih (q + 1) gr bf with e | ⟨e1, e2, e3⟩
          · left; exact e
          · right; omega
    have hm2 := hmem n.toNat 0 (-4) (-1)
    generalize (gbf (fun x => (tlr s f kd (bgv s n.toNat) b r g n m (m - 1).toNat x).1) n.toNat 0 (-4) (-1)) = R at *
    cases hl : wl (alS s kd f) n.toNat m.toNat 0 0 with
    | nil =>
      rw [hl] at hsc
      have hR1 : R.2 = -1 := by
        by_cases z : R.2 = -1
        · exact z
        · rw [if_neg z] at hsc; cases hsc
      have hR2 : R.1 = -4 := by omega
      refine ⟨hR2.symm, ⟨fun _ => hR2, fun _ => rfl⟩, fun _ z => absurd hR2 z⟩
    | cons a l =>
      rw [hl] at hsc
      have hf := fw_bst0 (rwt (opl (bgv s n.toNat) kd b) (ost kd r g)) a l (-4) []
      have hc : (fw (rwt (opl (bgv s n.toNat) kd b) (ost kd r g)) (a :: l) 0 (-4) []).1 = 0 + ((a :: l).length : Int) := fw_n _ _ _ _ _
      rw [List.length_cons] at hc
      rw [← hf] at hsc
      have hR1 : ¬ R.2 = -1 := fun z => by rw [if_pos z] at hsc; cases hsc
      rw [if_neg hR1] at hsc
      have hsc2 := Option.some.inj hsc
      rw [hsc2]
      rcases hm2 with e | ⟨e1, e2, e3⟩
      · rw [e] at hR1; exact absurd rfl hR1
      · refine ⟨by show (0 : Int) + R.1 = R.1; omega, ⟨fun z => absurd z (by omega), fun z => absurd z (by omega)⟩, fun _ _ => ⟨rfl, by omega, by omega⟩⟩
end DP
