/-! both sides, group by group: the ranges of the class's numbers, and what the model's are to them -/
def sgn (c : Int) : Prop := (97 ≤ c ∧ c ≤ 122) ∨ (65 ≤ c ∧ c ≤ 90) ∨ c = 95
def ltr (c : Int) : Prop := (97 ≤ c ∧ c ≤ 122) ∨ (65 ≤ c ∧ c ≤ 90)
/-! the model: words of its text -/
def lowv (x : Int) : Int := if 65 ≤ x ∧ x ≤ 90 then x + 32 else x
/-- all rows that lay d letters, the first of them letter k, in the w places from lo on -/
def wl (A : Int → Int → Bool) : Nat → Nat → Int → Int → List (List Int)
  | _, 0, _, _ => [[]]
  | 0, _ + 1, _, _ => []
  | w + 1, d + 1, k, lo => (if A k lo then (wl A w d (k + 1) (lo + 1)).map (lo :: ·) else []) ++ wl A w (d + 1) k (lo + 1)
theorem wl_0 (A : Int → Int → Bool) (w : Nat) (k lo : Int) : wl A w 0 k lo = [[]] := by cases w <;> rfl
theorem wl_few (A : Int → Int → Bool) : ∀ (w d : Nat) (k lo : Int), w < d → wl A w d k lo = []
  | w, 0, _, _, h => absurd h (by omega)
  | 0, d + 1, _, _, _ => rfl
  | w + 1, d + 1, k, lo, h => by
    rw [wl, wl_few A w d _ _ (by omega), wl_few A w (d + 1) _ _ (by omega)]
    split <;> rfl
/-- what a row is worth -/
def rwt (P : Int → Int) (T : Int → Int → Int) : List Int → Int
  | [] => 0
  | [q] => P q
  | q :: x :: r => P q + T q x + rwt P T (x :: r)
/-- how many rows, the first of the greatest worth -/
def fw (W : List Int → Int) : List (List Int) → Int → Int → List Int → Int × Int × List Int
  | [], c, v, b => (c, v, b)
  | r :: l, c, v, b => if c = 0 ∨ v < W r then fw W l (c + 1) (W r) r else fw W l (c + 1) v b
/-! beginnings, as bits -/
theorem pw_bit (q : Nat) (i : Nat) : (2 ^ q : Nat).testBit i = decide (q = i) := Nat.testBit_two_pow
theorem bgv_bit (s : Int → Int) (q : Nat) : ∀ n : Nat, ((bgv s n).toNat.testBit q = true ↔ (q < n ∧ bgP s q))
  | 0 => by
    rw [bgv]
    constructor
    · intro h; simp at h
    · intro h; omega
  | n + 1 => by
    have h := bgv_bit s q n
    rw [bgv]
    by_cases hp : bgP s n
    · rw [if_pos hp]
      unfold bor pw
      rw [Int.toNat_natCast, Nat.testBit_or, Int.toNat_natCast, Int.toNat_natCast, pw_bit, Bool.or_eq_true, h, decide_eq_true_iff]
      constructor
      · rintro (⟨a, b⟩ | rfl)
        · exact ⟨by omega, b⟩
        · exact ⟨by omega, hp⟩
      · rintro ⟨a, b⟩
        rcases Nat.lt_or_ge q n with z | z
        · exact Or.inl ⟨z, b⟩
        · exact Or.inr (by omega)
    · rw [if_neg hp, h]
      constructor
      · rintro ⟨a, b⟩; exact ⟨by omega, b⟩
      · rintro ⟨a, b⟩
        rcases Nat.lt_or_ge q n with z | z
        · exact ⟨z, b⟩
        · rw [show q = n by omega] at b; exact absurd b hp
theorem band_pw {a : Int} {q : Nat} : band a (pw (q : Int)) = 0 ↔ ¬ a.toNat.testBit q = true := by
  unfold band pw
  rw [Int.toNat_natCast, Int.toNat_natCast]
  constructor
  · intro h hb
    have h0 : a.toNat &&& 2 ^ q = 0 := by omega
    have h1 : (a.toNat &&& 2 ^ q).testBit q = true := by rw [Nat.testBit_and, hb, pw_bit, decide_eq_true rfl]; rfl
    rw [h0, Nat.zero_testBit] at h1
    cases h1
  · intro h
    have h0 : a.toNat &&& 2 ^ q = 0 := by
      apply Nat.eq_of_testBit_eq
      intro i
      rw [Nat.testBit_and, pw_bit, Nat.zero_testBit]
      by_cases e : q = i
      · subst e
        cases hb : a.toNat.testBit q
        · rfl
        · exact absurd hb h
      · rw [decide_eq_false e, Bool.and_false]
    omega
theorem bgv_band {s : Int → Int} {n : Nat} {q : Int} (h0 : 0 ≤ q) (h1 : q < n) : band (bgv s n) (pw q) = 0 ↔ ¬ bgP s q := by
  obtain ⟨k, rfl⟩ : ∃ k : Nat, q = k := ⟨q.toNat, by omega⟩
  rw [band_pw, bgv_bit]
  constructor
  · intro h b; exact h ⟨by omega, b⟩
  · intro h b; exact h b.2
theorem bgv_congr {s v : Int → Int} : ∀ n : Nat, (∀ k : Int, 0 ≤ k → k < n → s k = v k) → bgv s n = bgv v n
  | 0, _ => rfl
  | n + 1, h => by
    have e : bgP s n ↔ bgP v n := by
      unfold bgP
      rw [h n (by omega) (by omega)]
      by_cases z : (n : Int) = 0
      · constructor <;> (rintro ⟨a, b⟩; exact ⟨a, Or.inl z⟩)
      · rw [h (n - 1) (by omega) (by omega)]
    rw [bgv, bgv, bgv_congr n (fun k a b => h k a (by omega))]
    by_cases q : bgP s n
    · rw [if_pos q, if_pos (e.mp q)]
    · rw [if_neg q, if_neg (fun z => q (e.mpr z))]
abbrev alS (s : Int → Int) (kd : Int) (f : Int → Int) : Int → Int → Bool := fun k q => decide (alk (s q) kd (f k))
/-- all ways: how many; the first of the greatest worth -/
def resS (s f : Int → Int) (kd b r g n m : Int) : Int × Int × List Int := fw (rwt (opl (bgv s n.toNat) kd b) (ost kd r g)) (wl (alS s kd f) n.toNat m.toNat 0 0) 0 (-4) []
def hsL (s : Int → Int) (u : Int) : Nat → Bool
  | 0 => false
  | n + 1 => hsL s u n || decide (lowv (s n) = u)
def psL (s : Int → Int) (n : Nat) (f : Int → Int) : Nat → Bool
  | 0 => true
  | m + 1 => psL s n f m && hsL s (lowv (f m)) n
/-- how many have it -/
noncomputable def cq (Q : Int → Prop) : Nat → Int
  | 0 => 0
  | n + 1 => @ite Int (Q n) (Classical.propDecidable _) (cq Q n + 1) (cq Q n)
theorem cq_yes {Q : Int → Prop} {n : Nat} (h : Q n) : cq Q (n + 1) = cq Q n + 1 := by rw [cq, if_pos h]
theorem cq_no {Q : Int → Prop} {n : Nat} (h : ¬ Q n) : cq Q (n + 1) = cq Q n := by rw [cq, if_neg h]
theorem cq_congr {Q R : Int → Prop} : ∀ n : Nat, (∀ y : Int, 0 ≤ y → y < n → (Q y ↔ R y)) → cq Q n = cq R n
  | 0, _ => rfl
  | n + 1, h => by
    have e := h n (by omega) (by omega)
    have ih := cq_congr n (fun y a b => h y a (by omega))
    by_cases z : Q n
    · rw [cq_yes z, cq_yes (e.mp z), ih]
    · rw [cq_no z, cq_no (fun w => z (e.mpr w)), ih]
theorem cq_r (Q : Int → Prop) : ∀ n : Nat, 0 ≤ cq Q n
  | 0 => by rw [cq]; omega
  | n + 1 => by
    have := cq_r Q n
    by_cases z : Q n
    · rw [cq_yes z]; omega
    · rw [cq_no z]; omega
theorem cq_0 {Q : Int → Prop} : ∀ n : Nat, (cq Q n = 0 ↔ ∀ y : Int, 0 ≤ y → y < n → ¬ Q y)
  | 0 => ⟨fun _ y a b => absurd b (by omega), fun _ => rfl⟩
  | n + 1 => by
    have ih := cq_0 (Q := Q) n
    have hr := cq_r Q n
    by_cases z : Q n
    · rw [cq_yes z]
      constructor
      · intro h; omega
      · intro h; exact absurd z (h n (by omega) (by omega))
    · rw [cq_no z, ih]
      constructor
      · intro h y a b
        rcases Int.lt_or_le y n with w | w
        · exact h y a w
        · rw [show y = n by omega]; exact z
      · intro h y a b; exact h y a (by omega)
theorem cq_rm {Q : Int → Prop} {z : Int} (h0 : 0 ≤ z) (hz : Q z) : ∀ n : Nat, z < n → cq Q n = cq (fun y => Q y ∧ ¬ y = z) n + 1
  | 0, h => absurd h (by omega)
  | n + 1, h => by
    by_cases e : z = n
    · rw [cq_yes (show Q n by rw [← e]; exact hz), cq_no (show ¬ (Q (n : Int) ∧ ¬ (n : Int) = z) from fun w => w.2 e.symm), cq_congr n (R := fun y => Q y ∧ ¬ y = z) (fun y a b => ⟨fun q => ⟨q, by omega⟩, fun q => q.1⟩)]
    · have ih := cq_rm h0 hz n (by omega)
      by_cases w : Q n
      · rw [cq_yes w, cq_yes (show Q (n : Int) ∧ ¬ (n : Int) = z from ⟨w, fun q => e q.symm⟩), ih]
      · rw [cq_no w, cq_no (show ¬ (Q (n : Int) ∧ ¬ (n : Int) = z) from fun q => w q.1), ih]
theorem cq_enum {N : Nat} (e : Int → Int) : ∀ (i : Nat) (Q : Int → Prop), (∀ j : Int, 0 ≤ j → j < i → (0 ≤ e j ∧ e j < N) ∧ Q (e j)) → (∀ j k : Int, 0 ≤ j → j < k → k < i → ¬ e j = e k) → (∀ y : Int, 0 ≤ y → y < N → Q y → ∃ j : Int, (0 ≤ j ∧ j < i) ∧ e j = y) → cq Q N = i
  | 0, Q, _, _, h3 => (cq_0 N).mpr (fun y a b q => by obtain ⟨j, c, _⟩ := h3 y a b q; omega)
  | i + 1, Q, h1, h2, h3 => by
    have hi := h1 i (by omega) (by omega)
    rw [cq_rm hi.1.1 hi.2 N hi.1.2, cq_enum e i (fun y => Q y ∧ ¬ y = e i) (fun j a b => ⟨(h1 j a (by omega)).1, (h1 j a (by omega)).2, h2 j i a (by omega) (by omega)⟩) (fun j k a b c => h2 j k a b (by omega)) (fun y a b q => by
      obtain ⟨j, c, d⟩ := h3 y a b q.1
      exact ⟨j, ⟨c.1, by
        rcases Int.lt_or_le j i with w | w
        · exact w
        · exact absurd (by rw [← d, show j = i by omega]) q.2⟩, d⟩)]
    omega
/-! the table of the class and the rows of the model: the same ways -/
theorem fw_n (W : List Int → Int) : ∀ (l : List (List Int)) (c v : Int) (b : List Int), (fw W l c v b).1 = c + l.length
  | [], c, v, b => by rw [fw]; simp
  | r :: l, c, v, b => by
    rw [fw]
    split
    · rw [fw_n W l, List.length_cons]; omega
    · rw [fw_n W l, List.length_cons]; omega
section CNT
variable (s f : Int → Int) (kd : Int)
def lw (m n : Nat) (d w : Nat) : Int := ((wl (alS s kd f) w d ((m : Int) - d) ((n : Int) - w)).length : Int)
theorem lw_0 (m n w : Nat) : lw s f kd m n 0 w = 1 := by unfold lw; rw [wl_0]; rfl
theorem lw_z (m n d : Nat) : lw s f kd m n (d + 1) 0 = 0 := by unfold lw; rw [wl]; rfl
theorem lw_s (m n d w : Nat) (hd : d + 1 ≤ m) (hw : w + 1 ≤ n) : lw s f kd m n (d + 1) (w + 1) = (if alk (s ((n - (w + 1) : Nat) : Int)) kd (f ((m - (d + 1) : Nat) : Int)) then lw s f kd m n d w else 0) + lw s f kd m n (d + 1) w := by
  unfold lw
  rw [wl, List.length_append]
  have e1 : ((m : Int) - (d + 1 : Nat)) = ((m - (d + 1) : Nat) : Int) := by omega
  have e2 : ((n : Int) - (w + 1 : Nat)) = ((n - (w + 1) : Nat) : Int) := by omega
  have e3 : (((m - (d + 1) : Nat) : Int) + 1) = (m : Int) - d := by omega
  have e4 : (((n - (w + 1) : Nat) : Int) + 1) = (n : Int) - w := by omega
  rw [e1, e2, e3, e4]
  by_cases h : alk (s ((n - (w + 1) : Nat) : Int)) kd (f ((m - (d + 1) : Nat) : Int))
  · rw [if_pos h, if_pos (show alS s kd f _ _ = true from decide_eq_true h), List.length_map]; omega
  · rw [if_neg h, if_neg (show ¬ alS s kd f _ _ = true from fun z => h (of_decide_eq_true z)), List.length_nil]; omega
/-- the first k letters in the first q places, the others behind them -/
def sq (m n q : Nat) : Nat → Int
  | 0 => 0
  | j + 1 => sq m n q j + cwv s f kd q j * lw s f kd m n (m - j) (n - q)
theorem sq_s (m n q : Nat) (hq : q + 1 ≤ n) : ∀ k : Nat, k ≤ m → sq s f kd m n (q + 1) (k + 1) + (if k < m then (if alk (s (q : Int)) kd (f (k : Int)) then cwv s f kd q k * lw s f kd m n (m - (k + 1)) (n - (q + 1)) else 0) else 0) = sq s f kd m n q (k + 1)
  | 0, _ => by
    have c1 : cwv s f kd (q + 1) 0 = 1 := by rw [cwv]
    have c2 : cwv s f kd q 0 = 1 := by cases q <;> rw [cwv]
    rw [sq, sq, sq, sq, c1, c2, Nat.sub_zero]
    cases m with
    | zero => rw [lw_0, lw_0]; simp
    | succ m =>
      rw [show n - q = (n - (q + 1)) + 1 by omega, lw_s s f kd (m + 1) n m (n - (q + 1)) (by omega) (by omega), if_pos (show 0 < m + 1 by omega), show n - (n - (q + 1) + 1) = q by omega, show m + 1 - (m + 1) = 0 by omega, show m + 1 - (0 + 1) = m by omega]
      split <;> omega
  | k + 1, hk => by
    have ih := sq_s m n q hq k (by omega)
    rw [if_pos (show k < m by omega)] at ih
    have c1 : cwv s f kd (q + 1) (k + 1) = cwv s f kd q (k + 1) + (if alk (s (q : Int)) kd (f (k : Int)) then cwv s f kd q k else 0) := by rw [cwv]
    rw [sq, sq.eq_2 _ _ _ _ _ _ (k + 1), ← ih, c1, Int.add_mul]
    have e1 : (if alk (s (q : Int)) kd (f (k : Int)) then cwv s f kd q k else 0) * lw s f kd m n (m - (k + 1)) (n - (q + 1)) = (if alk (s (q : Int)) kd (f (k : Int)) then cwv s f kd q k * lw s f kd m n (m - (k + 1)) (n - (q + 1)) else 0) := by
      split
      · rfl
      · rw [Int.zero_mul]
    rw [e1]
    have e2 : cwv s f kd q (k + 1) * lw s f kd m n (m - (k + 1)) (n - q) = cwv s f kd q (k + 1) * lw s f kd m n (m - (k + 1)) (n - (q + 1)) + (if k + 1 < m then (if alk (s (q : Int)) kd (f ((k + 1 : Nat) : Int)) then cwv s f kd q (k + 1) * lw s f kd m n (m - (k + 1 + 1)) (n - (q + 1)) else 0) else 0) := by
      by_cases z : k + 1 < m
      · rw [if_pos z, show m - (k + 1) = (m - (k + 1 + 1)) + 1 by omega, show n - q = (n - (q + 1)) + 1 by omega, lw_s s f kd m n _ _ (by omega) (by omega), show n - (n - (q + 1) + 1) = q by omega, show m - (m - (k + 1 + 1) + 1) = k + 1 by omega, Int.mul_add]
        split
        · omega
        · rw [Int.mul_zero]; omega
      · rw [if_neg z, show m - (k + 1) = 0 by omega, lw_0, lw_0]; omega
    rw [e2]
    omega
theorem sq_0 (m n : Nat) : ∀ k : Nat, sq s f kd m n 0 (k + 1) = lw s f kd m n m n
  | 0 => by rw [sq, sq, cwv]; simp
  | k + 1 => by rw [sq, sq_0 m n k, cwv]; simp
theorem sq_c (m n : Nat) : ∀ q : Nat, q ≤ n → sq s f kd m n q (m + 1) = lw s f kd m n m n
  | 0, _ => sq_0 s f kd m n m
  | q + 1, h => by
    have e := sq_s s f kd m n q h m (Nat.le_refl m)
    rw [if_neg (Nat.lt_irrefl m)] at e
    rw [← sq_c m n q (by omega)]
    omega
theorem sq_e (m n : Nat) : ∀ k : Nat, k ≤ m → sq s f kd m n n k = 0
  | 0, _ => rfl
  | k + 1, h => by
    rw [sq, sq_e m n k (by omega), Nat.sub_self, show m - k = (m - (k + 1)) + 1 by omega, lw_z]; simp
theorem cwv_wl (n m : Nat) : ((wl (alS s kd f) n m 0 0).length : Int) = cwv s f kd n m := by
  have h := sq_c s f kd m n n (Nat.le_refl n)
  rw [sq, sq_e s f kd m n m (Nat.le_refl m), Nat.sub_self, Nat.sub_self, lw_0] at h
  have e : lw s f kd m n m n = ((wl (alS s kd f) n m 0 0).length : Int) := by
    unfold lw
    rw [show (m : Int) - m = 0 by omega, show (n : Int) - n = 0 by omega]
  rw [← e]; omega
theorem resS_n {b r g n m : Int} (hn : 0 ≤ n) (hm : 0 ≤ m) : (resS s f kd b r g n m).1 = cwv s f kd n.toNat m.toNat := by
  unfold resS
  rw [fw_n, cwv_wl]; omega
end CNT

/-! the best of the rows, and the table's -/
def mx {α : Type} : Option (Int × α) → Option (Int × α) → Option (Int × α)
  | none, y => y
  | some x, none => some x
  | some x, some y => if x.1 < y.1 then some y else some x
theorem mx_n {α : Type} (x : Option (Int × α)) : mx x none = x := by cases x <;> rfl
theorem mx_a {α : Type} (x y z : Option (Int × α)) : mx (mx x y) z = mx x (mx y z) := by
  cases x with
  | none => rfl
  | some a =>
    cases y with
    | none => rfl
    | some b =>
      cases z with
      | none => rw [mx_n, mx_n]
      | some c =>
        show mx (if a.1 < b.1 then some b else some a) (some c) = mx (some a) (if b.1 < c.1 then some c else some b)
        by_cases h1 : a.1 < b.1
        · by_cases h2 : b.1 < c.1
          · rw [if_pos h1, if_pos h2]; show (if b.1 < c.1 then _ else _) = (if a.1 < c.1 then _ else _); rw [if_pos h2, if_pos (by omega)]
          · rw [if_pos h1, if_neg h2]; show (if b.1 < c.1 then _ else _) = (if a.1 < b.1 then _ else _); rw [if_neg h2, if_pos h1]
        · by_cases h2 : b.1 < c.1
          · rw [if_neg h1, if_pos h2]
          · rw [if_neg h1, if_neg h2]; show (if a.1 < c.1 then _ else _) = (if a.1 < b.1 then _ else _); rw [if_neg h1, if_neg (by omega)]
theorem mx_map {α β : Type} {c : Int} {g : α → β} (x y : Option (Int × α)) : (mx x y).map (fun p => (c + p.1, g p.2)) = mx (x.map (fun p => (c + p.1, g p.2))) (y.map (fun p => (c + p.1, g p.2))) := by
  cases x with
  | none => rfl
  | some a =>
    cases y with
    | none => rfl
    | some b =>
      show Option.map _ (if a.1 < b.1 then some b else some a) = (if c + a.1 < c + b.1 then _ else _)
      by_cases h : a.1 < b.1
      · rw [if_pos h, if_pos (by omega)]; rfl
      · rw [if_neg h, if_neg (by omega)]; rfl
def bst (W : List Int → Int) : List (List Int) → Option (Int × List Int)
  | [] => none
  | r :: l => mx (some (W r, r)) (bst W l)
theorem bst_app (W : List Int → Int) : ∀ l k : List (List Int), bst W (l ++ k) = mx (bst W l) (bst W k)
  | [], k => rfl
  | r :: l, k => by rw [List.cons_append, bst, bst, bst_app W l k, mx_a]
theorem bst_shift {W V : List Int → Int} {c : Int} : ∀ l : List (List Int), (∀ r ∈ l, V r = c + W r) → bst V l = (bst W l).map (fun p => (c + p.1, id p.2))
  | [], _ => rfl
  | r :: l, h => by
    rw [bst, bst, bst_shift l (fun r hr => h r (List.mem_cons_of_mem _ hr)), mx_map, h r List.mem_cons_self]; rfl
theorem bst_map {W : List Int → Int} {q : Int} : ∀ l : List (List Int), bst W (l.map (q :: ·)) = (bst (fun r => W (q :: r)) l).map (fun p => ((0 : Int) + p.1, q :: p.2))
  | [] => rfl
  | r :: l => by
    have e := mx_map (c := 0) (g := fun z : List Int => q :: z) (some (W (q :: r), r)) (bst (fun r => W (q :: r)) l)
    rw [List.map_cons, bst, bst, bst_map l, e]
    show mx (some (W (q :: r), q :: r)) _ = mx (some ((0 : Int) + W (q :: r), q :: r)) _
    rw [Int.zero_add]
theorem fw_bst (W : List Int → Int) : ∀ (l : List (List Int)) (c v : Int) (b : List Int), 0 < c → some (fw W l c v b).2 = mx (some (v, b)) (bst W l)
  | [], c, v, b, _ => rfl
  | r :: l, c, v, b, h => by
    rw [fw, bst, ← mx_a]
    show _ = mx (if v < W r then some (W r, r) else some (v, b)) _
    by_cases q : v < W r
    · rw [if_pos (Or.inr q), if_pos q]; exact fw_bst W l _ _ _ (by omega)
    · rw [if_neg (by omega), if_neg q]; exact fw_bst W l _ _ _ (by omega)
theorem fw_bst0 (W : List Int → Int) (r : List Int) (l : List (List Int)) (v : Int) (b : List Int) : some (fw W (r :: l) 0 v b).2 = bst W (r :: l) := by
  rw [fw, if_pos (Or.inl rfl), bst]
  exact fw_bst W l _ _ _ (by omega)
/-- the first place of the greatest value, from place q on -/
def scn (V : Int → Option Int) : Nat → Int → Option (Int × Int)
  | 0, _ => none
  | k + 1, q => mx ((V q).map (fun v => (v, q))) (scn V k (q + 1))
theorem nxl_scn {T c : Int → Int} : ∀ (k : Nat) (q gr nx : Int), 0 ≤ q → mx (if nx = -1 then none else some (gr, nx)) (scn (fun x => if T x = -4 then none else some (T x + c x)) k q) = (if (nxl T c k q gr nx).2 = -1 then none else some (nxl T c k q gr nx))
  | 0, q, gr, nx, _ => by rw [scn, mx_n, nxl]
  | k + 1, q, gr, nx, h => by
    rw [scn, nxl]
    by_cases hT : T q = -4
    · rw [if_pos hT, if_pos hT]
      exact nxl_scn k (q + 1) gr nx (by omega)
    · rw [if_neg hT, if_neg hT]
      have ih := nxl_scn (T := T) (c := c) k (q + 1)
      show mx _ (mx (some (T q + c q, q)) _) = _
      rw [← mx_a]
      by_cases h2 : nx = -1 ∨ gr < T q + c q
      · rw [if_pos h2, ← ih (T q + c q) q (by omega), if_neg (show ¬ q = -1 by omega)]
        congr 1
        by_cases h3 : nx = -1
        · rw [if_pos h3]; rfl
        · rw [if_neg h3]; show (if gr < T q + c q then _ else _) = _; rw [if_pos (by omega)]
      · rw [if_neg h2, ← ih gr nx (by omega)]
        congr 1
        rw [if_neg (fun z => h2 (Or.inl z))]
        show (if gr < T q + c q then _ else _) = _
        rw [if_neg (fun z => h2 (Or.inr z))]
theorem gbf_scn {T : Int → Int} : ∀ (k : Nat) (q gr bf : Int), 0 ≤ q → (∀ i : Int, q ≤ i → i < q + k → T i = -4 ∨ -4 < T i) → (bf = -1 ∧ gr = -4) ∨ (¬ bf = -1 ∧ -4 < gr) → mx (if bf = -1 then none else some (gr, bf)) (scn (fun x => if T x = -4 then none else some (T x)) k q) = (if (gbf T k q gr bf).2 = -1 then none else some (gbf T k q gr bf)) ∧ (((gbf T k q gr bf).2 = -1 ∧ (gbf T k q gr bf).1 = -4) ∨ (¬ (gbf T k q gr bf).2 = -1 ∧ -4 < (gbf T k q gr bf).1))
  | 0, q, gr, bf, _, _, h => by rw [scn, mx_n, gbf]; exact ⟨rfl, h⟩
  | k + 1, q, gr, bf, h, hT, hs => by
    rw [scn, gbf]
    have hq := hT q (by omega) (by omega)
    by_cases h4 : T q = -4
    · rw [if_pos h4, if_neg (show ¬ gr < T q by omega)]
      exact gbf_scn k (q + 1) gr bf (by omega) (fun i a b => hT i (by omega) (by omega)) hs
    · rw [if_neg h4]
      show mx _ (mx (some (T q, q)) _) = _ ∧ _
      rw [← mx_a]
      by_cases h2 : gr < T q
      · rw [if_pos h2]
        have ih := gbf_scn k (q + 1) (T q) q (by omega) (fun i a b => hT i (by omega) (by omega)) (Or.inr ⟨by omega, by omega⟩)
        refine ⟨?_, ih.2⟩
        rw [← ih.1, if_neg (show ¬ q = -1 by omega)]
        congr 1
        by_cases h3 : bf = -1
        · rw [if_pos h3]; rfl
        · rw [if_neg h3]; show (if gr < T q then _ else _) = _; rw [if_pos h2]
      · rw [if_neg h2]
        have ih := gbf_scn k (q + 1) gr bf (by omega) (fun i a b => hT i (by omega) (by omega)) hs
        refine ⟨?_, ih.2⟩
        rw [← ih.1]
        congr 1
        rw [if_neg (by omega)]
        show (if gr < T q then _ else _) = _
        rw [if_neg h2]
/-- a row by the table's next places -/
def rowd (t : Nat → Int → Int × Int) : Nat → Int → List Int
  | 0, x => [x]
  | d + 1, x => x :: rowd t d (t (d + 1) x).2
section DP
variable {s f : Int → Int} {kd b r g n m : Int}
theorem tlr_v (hB : 0 ≤ b ∧ b ≤ 9) (hR : 0 ≤ r ∧ r ≤ 9) (hG : 0 ≤ g ∧ g ≤ 9) (hn : 0 ≤ n ∧ n ≤ 12) {bg : Int} {d : Nat} {q : Int} (hq : 0 ≤ q ∧ q < n) (ih : ∀ x : Int, 0 ≤ x → x < n → (tlr s f kd bg b r g n m d x).1 = -4 ∨ (50 * ((d : Int) + 1) - 9 * (n - 1 - x - d) ≤ (tlr s f kd bg b r g n m d x).1 ∧ x + d ≤ n - 1 ∧ (d = 0 → 50 ≤ (tlr s f kd bg b r g n m d x).1))) (hx : ¬ (nxl (fun x => (tlr s f kd bg b r g n m d x).1) (ost kd r g q) (n - (q + 1)).toNat (q + 1) 0 (-1)).2 = -1) :
    50 * ((d : Int) + 2) - 9 * (n - 2 - q - d) ≤ opl bg kd b q + (nxl (fun x => (tlr s f kd bg b r g n m d x).1) (ost kd r g q) (n - (q + 1)).toNat (q + 1) 0 (-1)).1 ∧ q + (d + 1) ≤ n - 1 := by
  have h1 := opl_r (bg := bg) (k := kd) (q := q) hB
  rcases nxl_mem (T := fun x => (tlr s f kd bg b r g n m d x).1) (c := ost kd r g q) (n - (q + 1)).toNat (q + 1) 0 (-1) with e | ⟨m1, m2, m3, m4⟩
  · rw [e] at hx; exact absurd rfl hx
  · generalize (nxl (fun x => (tlr s f kd bg b r g n m d x).1) (ost kd r g q) (n - (q + 1)).toNat (q + 1) 0 (-1)) = R at *
    have h2 := ih R.2 (by omega) (by omega)
    have h3 := ost_r (k := kd) (q := q) (x := R.2) hR hG (by omega) (by omega)
    omega
theorem tlr_lb (hB : 0 ≤ b ∧ b ≤ 9) (hR : 0 ≤ r ∧ r ≤ 9) (hG : 0 ≤ g ∧ g ≤ 9) (hn : 0 ≤ n ∧ n ≤ 12) {bg : Int} : ∀ (d : Nat) (q : Int), 0 ≤ q → q < n → (tlr s f kd bg b r g n m d q).1 = -4 ∨ (50 * ((d : Int) + 1) - 9 * (n - 1 - q - d) ≤ (tlr s f kd bg b r g n m d q).1 ∧ q + d ≤ n - 1 ∧ (d = 0 → 50 ≤ (tlr s f kd bg b r g n m d q).1))
  | 0, q, h0, h1 => by
    have h2 := opl_r (bg := bg) (k := kd) (q := q) hB
    rw [tlr, rw1]
    split
    · rw [if_pos rfl]; right; dsimp only; omega
    · left; rfl
  | d + 1, q, h0, h1 => by
    have hv := tlr_v (s := s) (f := f) (kd := kd) (m := m) hB hR hG hn (bg := bg) (d := d) ⟨h0, h1⟩ (fun x a b => tlr_lb hB hR hG hn d x a b)
    rw [tlr, rw1]
    split
    · rw [if_neg (by omega)]
      dsimp only
      split
      · left; rfl
      · rename_i hx
        have := hv hx
        right
        refine ⟨by omega, by omega, fun z => absurd z (by omega)⟩
    · left; rfl
theorem tlr_gt (hB : 0 ≤ b ∧ b ≤ 9) (hR : 0 ≤ r ∧ r ≤ 9) (hG : 0 ≤ g ∧ g ≤ 9) (hn : 0 ≤ n ∧ n ≤ 12) {bg : Int} (d : Nat) (q : Int) (h0 : 0 ≤ q) (h1 : q < n) : (tlr s f kd bg b r g n m d q).1 = -4 ∨ -4 < (tlr s f kd bg b r g n m d q).1 := by
  rcases tlr_lb (s := s) (f := f) (kd := kd) (m := m) hB hR hG hn (bg := bg) d q h0 h1 with h | ⟨h2, h3, h4⟩
  · exact Or.inl h
  · right
    by_cases z : d = 0
    · have := h4 z; omega
    · omega
/-- the rows whose first place is q -/
def hdr (s f : Int → Int) (kd n m : Int) (d : Nat) (q : Int) : List (List Int) := if alS s kd f (m - 1 - d) q then (wl (alS s kd f) (n - q - 1).toNat d (m - d) (q + 1)).map (q :: ·) else []
theorem bst_scn {T : Int → Int → Int} {P : Int → Int} {t : Nat → Int → Int × Int} {q : Int} {d : Nat} (hd : (d : Int) + 1 ≤ m) (hrow : ∀ x : Int, 0 ≤ x → x < n → bst (rwt P T) (hdr s f kd n m d x) = if (t d x).1 = -4 then none else some ((t d x).1, rowd t d x)) : ∀ (w : Nat) (lo : Int), 0 ≤ lo → lo + w = n → bst (fun z => rwt P T (q :: z)) (wl (alS s kd f) w (d + 1) (m - 1 - d) lo) = (scn (fun x => if (t d x).1 = -4 then none else some ((t d x).1 + T q x)) w lo).map (fun p => (P q + p.1, rowd t d p.2))
  | 0, lo, _, _ => by rw [wl, scn]; rfl
  | w + 1, lo, h0, h1 => by
    have h := hrow lo h0 (by omega)
    unfold hdr at h
    rw [show (n - lo - 1).toNat = w by omega, show m - d = m - 1 - d + 1 by omega] at h
    rw [wl, scn, bst_app, bst_scn hd hrow w (lo + 1) (by omega) (by omega), mx_map]
    congr 1
    have e := bst_shift (W := rwt P T) (V := fun z => rwt P T (q :: z)) (c := P q + T q lo) (if alS s kd f (m - 1 - d) lo then (wl (alS s kd f) w d (m - 1 - d + 1) (lo + 1)).map (lo :: ·) else []) (fun z hz => by
      split at hz
      · obtain ⟨y, -, rfl⟩ := List.mem_map.mp hz
        show P q + T q lo + rwt P T (lo :: y) = _
        rfl
      · cases hz)
    rw [e, h]
    by_cases z : (t d lo).1 = -4
    · rw [if_pos z, if_pos z]; rfl
    · rw [if_neg z, if_neg z]
      show some (P q + T q lo + (t d lo).1, rowd t d lo) = some (P q + ((t d lo).1 + T q lo), rowd t d lo)
      rw [show P q + T q lo + (t d lo).1 = P q + ((t d lo).1 + T q lo) by omega]
theorem bst_scn0 {T : Int → Int → Int} {P : Int → Int} {t : Nat → Int → Int × Int} {d : Nat} (hd : (d : Int) + 1 ≤ m) (hrow : ∀ x : Int, 0 ≤ x → x < n → bst (rwt P T) (hdr s f kd n m d x) = if (t d x).1 = -4 then none else some ((t d x).1, rowd t d x)) : ∀ (w : Nat) (lo : Int), 0 ≤ lo → lo + w = n → bst (rwt P T) (wl (alS s kd f) w (d + 1) (m - 1 - d) lo) = (scn (fun x => if (t d x).1 = -4 then none else some (t d x).1) w lo).map (fun p => ((0 : Int) + p.1, rowd t d p.2))
  | 0, lo, _, _ => by rw [wl, scn]; rfl
  | w + 1, lo, h0, h1 => by
    have h := hrow lo h0 (by omega)
    unfold hdr at h
    rw [show (n - lo - 1).toNat = w by omega, show m - d = m - 1 - d + 1 by omega] at h
    rw [wl, scn, bst_app, bst_scn0 hd hrow w (lo + 1) (by omega) (by omega), mx_map, h]
    congr 1
    by_cases z : (t d lo).1 = -4
    · rw [if_pos z, if_pos z]; rfl
    · rw [if_neg z, if_neg z]
      show some ((t d lo).1, rowd t d lo) = some (0 + (t d lo).1, rowd t d lo)
      rw [Int.zero_add]
theorem bst_row (hB : 0 ≤ b ∧ b ≤ 9) (hR : 0 ≤ r ∧ r ≤ 9) (hG : 0 ≤ g ∧ g ≤ 9) (hn : 0 ≤ n ∧ n ≤ 12) {bg : Int} : ∀ (d : Nat), (d : Int) + 1 ≤ m → ∀ q : Int, 0 ≤ q → q < n → bst (rwt (opl bg kd b) (ost kd r g)) (hdr s f kd n m d q) = if (tlr s f kd bg b r g n m d q).1 = -4 then none else some ((tlr s f kd bg b r g n m d q).1, rowd (tlr s f kd bg b r g n m) d q)
  | 0, hd, q, h0, h1 => by
    have h2 := opl_r (bg := bg) (k := kd) (q := q) hB
    unfold hdr
    rw [tlr, rw1, wl_0, show m - 1 - ((0 : Nat) : Int) = m - 1 by omega]
    by_cases h : alk (s q) kd (f (m - 1))
    · rw [if_pos (show alS s kd f (m - 1) q = true from decide_eq_true h), if_pos h, if_pos rfl]
      dsimp only
      rw [if_neg (by omega)]
      rfl
    · rw [if_neg (show ¬ alS s kd f (m - 1) q = true from fun z => h (of_decide_eq_true z)), if_neg h, if_pos rfl]; rfl
  | d + 1, hd, q, h0, h1 => by
    have ih := bst_row hB hR hG hn (bg := bg) d (by omega)
    have hv := tlr_v (s := s) (f := f) (kd := kd) (m := m) hB hR hG hn (bg := bg) (d := d) ⟨h0, h1⟩ (fun x a b => tlr_lb hB hR hG hn d x a b)
    have hsc := bst_scn (T := ost kd r g) (P := opl bg kd b) (t := tlr s f kd bg b r g n m) (q := q) (d := d) (by omega) ih (n - (q + 1)).toNat (q + 1) (by omega) (by omega)
    have hnx := nxl_scn (T := fun x => (tlr s f kd bg b r g n m d x).1) (c := ost kd r g q) (n - (q + 1)).toNat (q + 1) 0 (-1) (by omega)
    rw [if_pos rfl] at hnx
    have hnx : scn (fun x => if (tlr s f kd bg b r g n m d x).1 = -4 then none else some ((tlr s f kd bg b r g n m d x).1 + ost kd r g q x)) (n - (q + 1)).toNat (q + 1) = _ := hnx
    rw [hnx] at hsc
    unfold hdr
    rw [tlr.eq_2, rw1, show m - 1 - ((d + 1 : Nat) : Int) = m - 2 - d by omega, show m - ((d + 1 : Nat) : Int) = m - 1 - d by omega, show n - q - 1 = n - (q + 1) by omega]
    by_cases h : alk (s q) kd (f (m - 2 - d))
    · rw [if_pos (show alS s kd f (m - 2 - d) q = true from decide_eq_true h), if_pos h, if_neg (show ¬ ((d : Int) + 1 = 0) by omega), bst_map, hsc]
      by_cases hx : (nxl (fun x => (tlr s f kd bg b r g n m d x).1) (ost kd r g q) (n - (q + 1)).toNat (q + 1) 0 (-1)).2 = -1
      · rw [if_pos hx, if_pos hx, if_pos rfl]; rfl
      · have hb := hv hx
        rw [if_neg hx, if_neg hx, if_neg (by omega)]
        have er : rowd (tlr s f kd bg b r g n m) (d + 1) q = q :: rowd (tlr s f kd bg b r g n m) d (nxl (fun x => (tlr s f kd bg b r g n m d x).1) (ost kd r g q) (n - (q + 1)).toNat (q + 1) 0 (-1)).2 := by
          rw [rowd, tlr.eq_2, rw1, if_pos h, if_neg (by omega)]
        rw [er]
        show some ((0 : Int) + (_ + _), _) = some (_ + _, _)
        rw [Int.zero_add]
    · rw [if_neg (show ¬ alS s kd f (m - 2 - d) q = true from fun z => h (of_decide_eq_true z)), if_neg h, if_pos rfl]; rfl
/-- the table's worth and row are the rows' -/
theorem resS_w (hB : 0 ≤ b ∧ b ≤ 9) (hR : 0 ≤ r ∧ r ≤ 9) (hG : 0 ≤ g ∧ g ≤ 9) (hn : 0 ≤ n ∧ n ≤ 12) (hm : 0 ≤ m) : (resS s f kd b r g n m).2.1 = wor s f kd (bgv s n.toNat) b r g n m ∧ ((resS s f kd b r g n m).1 = 0 ↔ wor s f kd (bgv s n.toNat) b r g n m = -4) ∧ (0 < m → ¬ wor s f kd (bgv s n.toNat) b r g n m = -4 → (resS s f kd b r g n m).2.2 = rowd (tlr s f kd (bgv s n.toNat) b r g n m) (m - 1).toNat (wob s f kd (bgv s n.toNat) b r g n m) ∧ (0 ≤ wob s f kd (bgv s n.toNat) b r g n m ∧ wob s f kd (bgv s n.toNat) b r g n m < n) ∧ ¬ (tlr s f kd (bgv s n.toNat) b r g n m (m - 1).toNat (wob s f kd (bgv s n.toNat) b r g n m)).1 = -4) := by
  unfold resS wor wob
  by_cases m0 : m = 0
  · subst m0
    rw [if_pos rfl, if_pos rfl, show (0 : Int).toNat = 0 from rfl, wl_0]
    refine ⟨rfl, ⟨fun z => by rw [fw_n] at z; simp at z, fun z => absurd z (by decide)⟩, fun z => absurd z (by omega)⟩
  · rw [if_neg m0, if_neg m0]
    have hsc := bst_scn0 (s := s) (f := f) (kd := kd) (T := ost kd r g) (P := opl (bgv s n.toNat) kd b) (t := tlr s f kd (bgv s n.toNat) b r g n m) (d := (m - 1).toNat) (by omega) (bst_row hB hR hG hn _ (by omega)) n.toNat 0 (by omega) (by omega)
    have hgb := gbf_scn (T := fun x => (tlr s f kd (bgv s n.toNat) b r g n m (m - 1).toNat x).1) n.toNat 0 (-4) (-1) (by omega) (fun i a b => tlr_gt hB hR hG hn _ i a (by omega)) (Or.inl ⟨rfl, rfl⟩)
    rw [if_pos rfl] at hgb
    have hg1 : scn (fun x => if (tlr s f kd (bgv s n.toNat) b r g n m (m - 1).toNat x).1 = -4 then none else some (tlr s f kd (bgv s n.toNat) b r g n m (m - 1).toNat x).1) n.toNat 0 = _ := hgb.1
    rw [hg1, show (m - 1).toNat + 1 = m.toNat by omega, show m - 1 - (((m - 1).toNat : Nat) : Int) = 0 by omega] at hsc
    have hg2 := hgb.2
    have hmem : ∀ (k : Nat) (q gr bf : Int), gbf (fun x => (tlr s f kd (bgv s n.toNat) b r g n m (m - 1).toNat x).1) k q gr bf = (gr, bf) ∨ (q ≤ (gbf (fun x => (tlr s f kd (bgv s n.toNat) b r g n m (m - 1).toNat x).1) k q gr bf).2 ∧ (gbf (fun x => (tlr s f kd (bgv s n.toNat) b r g n m (m - 1).toNat x).1) k q gr bf).2 < q + k ∧ (gbf (fun x => (tlr s f kd (bgv s n.toNat) b r g n m (m - 1).toNat x).1) k q gr bf).1 = (tlr s f kd (bgv s n.toNat) b r g n m (m - 1).toNat (gbf (fun x => (tlr s f kd (bgv s n.toNat) b r g n m (m - 1).toNat x).1) k q gr bf).2).1) := by
      intro k
      induction k with
      | zero => intro q gr bf; left; rfl
      | succ k ih =>
        intro q gr bf
        rw [gbf]
        split
        · rcases ih (q + 1) (tlr s f kd (bgv s n.toNat) b r g n m (m - 1).toNat q).1 q with e | ⟨e1, e2, e3⟩
          · right; rw [e]; dsimp only; omega
          · right; omega
        · rcases ih (q + 1) gr bf with e | ⟨e1, e2, e3⟩
          · left; exact e
          · right; omega
    have hm2 := hmem n.toNat 0 (-4) (-1)
    generalize (gbf (fun x => (tlr s f kd (bgv s n.toNat) b r g n m (m - 1).toNat x).1) n.toNat 0 (-4) (-1)) = R at *
    cases hl : wl (alS s kd f) n.toNat m.toNat 0 0 with
    | nil =>
      rw [hl] at hsc
      have hR1 : R.2 = -1 := by
        by_cases z : R.2 = -1
        · exact z
        · rw [if_neg z] at hsc; cases hsc
      have hR2 : R.1 = -4 := by omega
      refine ⟨hR2.symm, ⟨fun _ => hR2, fun _ => rfl⟩, fun _ z => absurd hR2 z⟩
    | cons a l =>
      rw [hl] at hsc
      have hf := fw_bst0 (rwt (opl (bgv s n.toNat) kd b) (ost kd r g)) a l (-4) []
      have hc : (fw (rwt (opl (bgv s n.toNat) kd b) (ost kd r g)) (a :: l) 0 (-4) []).1 = 0 + ((a :: l).length : Int) := fw_n _ _ _ _ _
      rw [List.length_cons] at hc
      rw [← hf] at hsc
      have hR1 : ¬ R.2 = -1 := fun z => by rw [if_pos z] at hsc; cases hsc
      rw [if_neg hR1] at hsc
      have hsc2 := Option.some.inj hsc
      rw [hsc2]
      rcases hm2 with e | ⟨e1, e2, e3⟩
      · rw [e] at hR1; exact absurd rfl hR1
      · refine ⟨by show (0 : Int) + R.1 = R.1; omega, ⟨fun z => absurd z (by omega), fun z => absurd z (by omega)⟩, fun _ _ => ⟨rfl, by omega, by omega⟩⟩
end DP

/-! letters as bits, and letters sought one by one -/
theorem hsL_iff (s : Int → Int) (u : Int) : ∀ n : Nat, hsL s u n = true ↔ ∃ q : Nat, q < n ∧ lowv (s q) = u
  | 0 => ⟨fun h => (by cases h), fun ⟨q, h, _⟩ => absurd h (by omega)⟩
  | n + 1 => by
    rw [hsL, Bool.or_eq_true, hsL_iff s u n, decide_eq_true_iff]
    constructor
    · rintro (⟨q, h1, h2⟩ | h)
      · exact ⟨q, by omega, h2⟩
      · exact ⟨n, by omega, h⟩
    · rintro ⟨q, h1, h2⟩
      rcases Nat.lt_or_ge q n with z | z
      · exact Or.inl ⟨q, z, h2⟩
      · rw [show q = n by omega] at h2; exact Or.inr h2
theorem psL_iff (s : Int → Int) (n : Nat) (f : Int → Int) : ∀ m : Nat, psL s n f m = true ↔ ∀ k : Nat, k < m → hsL s (lowv (f k)) n = true
  | 0 => ⟨fun _ k h => absurd h (by omega), fun _ => rfl⟩
  | m + 1 => by
    rw [psL, Bool.and_eq_true, psL_iff s n f m]
    constructor
    · rintro ⟨h1, h2⟩ k hk
      rcases Nat.lt_or_ge k m with z | z
      · exact h1 k z
      · rw [show k = m by omega]; exact h2
    · intro h
      exact ⟨fun k hk => h k (by omega), h m (by omega)⟩
theorem pw_n (x : Int) (i : Nat) : (pw x).toNat.testBit i = decide (x.toNat = i) := by
  unfold pw
  rw [Int.toNat_natCast, pw_bit]
theorem bor_bit (a b : Int) (i : Nat) : (bor a b).toNat.testBit i = (a.toNat.testBit i || b.toNat.testBit i) := by
  unfold bor
  rw [Int.toNat_natCast, Nat.testBit_or]
theorem lbv_bit (s : Int → Int) (i : Nat) : ∀ n : Nat, (lbv s n).toNat.testBit i = true ↔ ∃ q : Nat, q < n ∧ ltr (s q) ∧ (lnum (s q)).toNat = i
  | 0 => by
    rw [lbv]
    exact ⟨fun h => by simp at h, fun ⟨q, h, _⟩ => absurd h (by omega)⟩
  | n + 1 => by
    have ih := lbv_bit s i n
    rw [lbv]
    by_cases hp : (97 ≤ s n ∧ s n ≤ 122) ∨ (65 ≤ s n ∧ s n ≤ 90)
    · rw [if_pos hp, bor_bit, Bool.or_eq_true, ih, pw_n, decide_eq_true_iff]
      constructor
      · rintro (⟨q, h1, h2⟩ | h)
        · exact ⟨q, by omega, h2⟩
        · exact ⟨n, by omega, hp, h⟩
      · rintro ⟨q, h1, h2⟩
        rcases Nat.lt_or_ge q n with z | z
        · exact Or.inl ⟨q, z, h2⟩
        · rw [show q = n by omega] at h2; exact Or.inr h2.2
    · rw [if_neg hp, ih]
      constructor
      · rintro ⟨q, h1, h2⟩; exact ⟨q, by omega, h2⟩
      · rintro ⟨q, h1, h2⟩
        rcases Nat.lt_or_ge q n with z | z
        · exact ⟨q, z, h2⟩
        · rw [show q = n by omega] at h2; exact absurd h2.1 hp
theorem wlb_bit (f : Int → Int) (i : Nat) : ∀ m : Nat, (wlb f m).toNat.testBit i = true ↔ ∃ k : Nat, k < m ∧ (lnum (f k)).toNat = i
  | 0 => by
    rw [wlb]
    exact ⟨fun h => by simp at h, fun ⟨q, h, _⟩ => absurd h (by omega)⟩
  | m + 1 => by
    rw [wlb, bor_bit, Bool.or_eq_true, wlb_bit f i m, pw_n, decide_eq_true_iff]
    constructor
    · rintro (⟨q, h1, h2⟩ | h)
      · exact ⟨q, by omega, h2⟩
      · exact ⟨m, by omega, h⟩
    · rintro ⟨q, h1, h2⟩
      rcases Nat.lt_or_ge q m with z | z
      · exact Or.inl ⟨q, z, h2⟩
      · rw [show q = m by omega] at h2; exact Or.inr h2
theorem bandn_0 (a b : Int) : bandn a b = 0 ↔ ∀ i : Nat, a.toNat.testBit i = true → b.toNat.testBit i = true := by
  unfold bandn
  constructor
  · intro h i hi
    have h0 : a.toNat ^^^ (a.toNat &&& b.toNat) = 0 := by omega
    have h1 : (a.toNat ^^^ (a.toNat &&& b.toNat)).testBit i = false := by rw [h0, Nat.zero_testBit]
    rw [Nat.testBit_xor, Nat.testBit_and, hi] at h1
    cases hb : b.toNat.testBit i
    · rw [hb] at h1; cases h1
    · rfl
  · intro h
    have h0 : a.toNat ^^^ (a.toNat &&& b.toNat) = 0 := by
      apply Nat.eq_of_testBit_eq
      intro i
      rw [Nat.testBit_xor, Nat.testBit_and, Nat.zero_testBit]
      cases ha : a.toNat.testBit i
      · rfl
      · rw [h i ha]; rfl
    omega
theorem low_ltr {c x : Int} (hc : sgn c) (hx : ltr x) : lowv c = lowv x ↔ ltr c ∧ (lnum c).toNat = (lnum x).toNat := by
  unfold lowv lnum ltr sgn at *
  split <;> split <;> split <;> split <;> omega
theorem pass_iff {s f : Int → Int} {n m : Nat} (hs : ∀ q : Nat, q < n → sgn (s q)) (hf : ∀ k : Nat, k < m → ltr (f k)) : bandn (wlb f m) (lbv s n) = 0 ↔ psL s n f m = true := by
  rw [bandn_0, psL_iff]
  constructor
  · intro h k hk
    obtain ⟨q, h1, h2, h3⟩ := (lbv_bit s _ n).mp (h _ ((wlb_bit f _ m).mpr ⟨k, hk, rfl⟩))
    exact (hsL_iff s _ n).mpr ⟨q, h1, (low_ltr (hs q h1) (hf k hk)).mpr ⟨h2, h3⟩⟩
  · intro h i hi
    obtain ⟨k, h1, h2⟩ := (wlb_bit f i m).mp hi
    obtain ⟨q, h3, h4⟩ := (hsL_iff s _ n).mp (h k h1)
    have h5 := (low_ltr (hs q h3) (hf k h1)).mp h4
    exact (lbv_bit s i n).mpr ⟨q, h3, h5.1, by rw [h5.2, h2]⟩
theorem hsL_congr {s v : Int → Int} {u : Int} {n : Nat} (h : ∀ q : Nat, q < n → s q = v q) : hsL s u n = hsL v u n := by
  have e : (hsL s u n = true ↔ hsL v u n = true) := by
    rw [hsL_iff, hsL_iff]
    constructor
    · rintro ⟨q, a, b⟩; exact ⟨q, a, by rw [← h q a]; exact b⟩
    · rintro ⟨q, a, b⟩; exact ⟨q, a, by rw [h q a]; exact b⟩
  cases h1 : hsL s u n <;> cases h2 : hsL v u n <;> simp_all
theorem psL_congr {s v f g : Int → Int} {n : Nat} : ∀ m : Nat, (∀ q : Nat, q < n → s q = v q) → (∀ k : Nat, k < m → f k = g k) → psL s n f m = psL v n g m
  | 0, _, _ => rfl
  | m + 1, h, hf => by rw [psL, psL, psL_congr m h (fun k hk => hf k (by omega)), hf m (by omega), hsL_congr h]
theorem wl_congr2 {A B : Int → Int → Bool} : ∀ (w d : Nat) (k lo : Int), (∀ j q : Int, k ≤ j → j < k + d → lo ≤ q → q < lo + w → A j q = B j q) → wl A w d k lo = wl B w d k lo
  | w, 0, _, _, _ => by rw [wl_0, wl_0]
  | 0, d + 1, _, _, _ => rfl
  | w + 1, d + 1, k, lo, h => by
    rw [wl, wl, wl_congr2 w d (k + 1) (lo + 1) (fun j q a b c e => h j q (by omega) (by omega) (by omega) (by omega)), wl_congr2 w (d + 1) k (lo + 1) (fun j q a b c e => h j q a b (by omega) (by omega)), h k lo (by omega) (by omega) (by omega) (by omega)]
theorem resS_cs {s v f g_ : Int → Int} {kd b r g n m : Int} (hn : 0 ≤ n) (hs : ∀ k : Int, 0 ≤ k → k < n → s k = v k) (hf : ∀ i : Int, 0 ≤ i → i < m → f i = g_ i) (hm : 0 ≤ m) : resS s f kd b r g n m = resS v g_ kd b r g n m := by
  unfold resS
  rw [bgv_congr n.toNat (fun k a b => hs k a (by omega)), wl_congr2 (A := alS s kd f) (B := alS v kd g_) _ _ _ _ (fun j q a b c e => by unfold alS; rw [hf j a (by omega), hs q c (by omega)])]
/-- where a way is, each letter has its place -/
theorem wl_mem {A : Int → Int → Bool} : ∀ (w d : Nat) (k lo : Int) (a : List Int), a ∈ wl A w d k lo → ∀ j : Int, k ≤ j → j < k + d → ∃ q : Int, lo ≤ q ∧ q < lo + w ∧ A j q = true
  | w, 0, _, _, _, _, j, h1, h2 => absurd h2 (by omega)
  | 0, d + 1, _, _, _, h, _, _, _ => by rw [wl] at h; cases h
  | w + 1, d + 1, k, lo, a, h, j, h1, h2 => by
    rw [wl, List.mem_append] at h
    rcases h with h | h
    · split at h
      · rename_i hA
        obtain ⟨z, hz, -⟩ := List.mem_map.mp h
        rcases Int.lt_or_le k j with q | q
        · obtain ⟨y, y1, y2, y3⟩ := wl_mem w d (k + 1) (lo + 1) z hz j (by omega) (by omega)
          exact ⟨y, by omega, by omega, y3⟩
        · rw [show j = k by omega]; exact ⟨lo, by omega, by omega, hA⟩
      · cases h
    · obtain ⟨y, y1, y2, y3⟩ := wl_mem w (d + 1) k (lo + 1) a h j h1 h2
      exact ⟨y, by omega, by omega, y3⟩
theorem way_pass {s f : Int → Int} {kd b r g n m : Int} (hn : 0 ≤ n) (hm : 0 ≤ m) (hs : ∀ q : Int, 0 ≤ q → q < n → sgn (s q)) (hf : ∀ k : Int, 0 ≤ k → k < m → ltr (f k)) (h : ¬ (resS s f kd b r g n m).1 = 0) : psL s n.toNat f m.toNat = true := by
  unfold resS at h
  rw [fw_n] at h
  cases hl : wl (alS s kd f) n.toNat m.toNat 0 0 with
  | nil => rw [hl] at h; exact absurd rfl h
  | cons a l =>
    rw [psL_iff]
    intro k hk
    obtain ⟨q, q1, q2, q3⟩ := wl_mem _ _ _ _ a (by rw [hl]; exact List.mem_cons_self) k (by omega) (by omega)
    have q4 : alk (s q) kd (f k) := of_decide_eq_true q3
    have hsq := hs q (by omega) (by omega)
    have hfk := hf k (by omega) (by omega)
    refine (hsL_iff s _ _).mpr ⟨q.toNat, by omega, ?_⟩
    rw [show ((q.toNat : Nat) : Int) = q by omega]
    unfold alk at q4
    rcases q4 with e | ⟨-, e1, e2⟩
    · rw [e]
    · exact (low_ltr hsq hfk).mpr ⟨e1, by rw [e2]⟩
theorem psb_congr {Pr Q : Int → Prop} : ∀ n : Nat, (∀ y : Int, 0 ≤ y → y < n → (Pr y ↔ Q y)) → psb Pr n = psb Q n
  | 0, _ => rfl
  | n + 1, h => by
    rw [psb, psb, psb_congr n (fun y a b => h y a (by omega))]
    have e := h n (by omega) (by omega)
    by_cases z : Pr n
    · rw [if_pos z, if_pos (e.mp z)]
    · rw [if_neg z, if_neg (fun w => z (e.mpr w))]

