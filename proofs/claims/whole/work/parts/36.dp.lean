/-! the table of the class and the rows of the model: the same ways -/
theorem fw_n (W : List Int → Int) : ∀ (l : List (List Int)) (c v : Int) (b : List Int), (fw W l c v b).1 = c + l.length
  | [], c, v, b => by rw [fw]; simp
  | r :: l, c, v, b => by
    rw [fw]
    split
    · rw [fw_n W l, List.length_cons]; omega
    · rw [fw_n W l, List.length_cons]; omega
section CNT
variable (s f : Int → Int) (kd : Int)
def lw (m n : Nat) (d w : Nat) : Int := ((wl (alS s kd f) w d ((m : Int) - d) ((n : Int) - w)).length : Int)
theorem lw_0 (m n w : Nat) : lw s f kd m n 0 w = 1 := by unfold lw; rw [wl_0]; rfl
theorem lw_z (m n d : Nat) : lw s f kd m n (d + 1) 0 = 0 := by unfold lw; rw [wl]; rfl
theorem lw_s (m n d w : Nat) (hd : d + 1 ≤ m) (hw : w + 1 ≤ n) : lw s f kd m n (d + 1) (w + 1) = (if alk (s ((n - (w + 1) : Nat) : Int)) kd (f ((m - (d + 1) : Nat) : Int)) then lw s f kd m n d w else 0) + lw s f kd m n (d + 1) w := by
  unfold lw
  rw [wl, List.length_append]
  have e1 : ((m : Int) - (d + 1 : Nat)) = ((m - (d + 1) : Nat) : Int) := by omega
  have e2 : ((n : Int) - (w + 1 : Nat)) = ((n - (w + 1) : Nat) : Int) := by omega
  have e3 : (((m - (d + 1) : Nat) : Int) + 1) = (m : Int) - d := by omega
  have e4 : (((n - (w + 1) : Nat) : Int) + 1) = (n : Int) - w := by omega
  rw [e1, e2, e3, e4]
  by_cases h : alk (s ((n - (w + 1) : Nat) : Int)) kd (f ((m - (d + 1) : Nat) : Int))
  · rw [if_pos h, if_pos (show alS s kd f _ _ = true from decide_eq_true h), List.length_map]; omega
  · rw [if_neg h, if_neg (show ¬ alS s kd f _ _ = true from fun z => h (of_decide_eq_true z)), List.length_nil]; omega
/-- the first k letters in the first q places, the others behind them -/
def sq (m n q : Nat) : Nat → Int
  | 0 => 0
  | j + 1 => sq m n q j + cwv s f kd q j * lw s f kd m n (m - j) (n - q)
theorem sq_s (m n q : Nat) (hq : q + 1 ≤ n) : ∀ k : Nat, k ≤ m → sq s f kd m n (q + 1) (k + 1) + (if k < m then (if alk (s (q : Int)) kd (f (k : Int)) then cwv s f kd q k * lw s f kd m n (m - (k + 1)) (n - (q + 1)) else 0) else 0) = sq s f kd m n q (k + 1)
  | 0, _ => by
    have c1 : cwv s f kd (q + 1) 0 = 1 := by rw [cwv]
    have c2 : cwv s f kd q 0 = 1 := by cases q <;> rw [cwv]
    rw [sq, sq, sq, sq, c1, c2, Nat.sub_zero]
    cases m with
    | zero => rw [lw_0, lw_0]; simp
    | succ m =>
      rw [show n - q = (n - (q + 1)) + 1 by omega, lw_s s f kd (m + 1) n m (n - (q + 1)) (by omega) (by omega), if_pos (show 0 < m + 1 by omega), show n - (n - (q + 1) + 1) = q by omega, show m + 1 - (m + 1) = 0 by omega, show m + 1 - (0 + 1) = m by omega]
      split <;> omega
  | k + 1, hk => by
    have ih := sq_s m n q hq k (by omega)
    rw [if_pos (show k < m by omega)] at ih
    have c1 : cwv s f kd (q + 1) (k + 1) = cwv s f kd q (k + 1) + (if alk (s (q : Int)) kd (f (k : Int)) then cwv s f kd q k else 0) := by rw [cwv]
    rw [sq, sq.eq_2 _ _ _ _ _ _ (k + 1), ← ih, c1, Int.add_mul]
    have e1 : (if alk (s (q : Int)) kd (f (k : Int)) then cwv s f kd q k else 0) * lw s f kd m n (m - (k + 1)) (n - (q + 1)) = (if alk (s (q : Int)) kd (f (k : Int)) then cwv s f kd q k * lw s f kd m n (m - (k + 1)) (n - (q + 1)) else 0) := by
      split
      · rfl
      · rw [Int.zero_mul]
    rw [e1]
    have e2 : cwv s f kd q (k + 1) * lw s f kd m n (m - (k + 1)) (n - q) = cwv s f kd q (k + 1) * lw s f kd m n (m - (k + 1)) (n - (q + 1)) + (if k + 1 < m then (if alk (s (q : Int)) kd (f ((k + 1 : Nat) : Int)) then cwv s f kd q (k + 1) * lw s f kd m n (m - (k + 1 + 1)) (n - (q + 1)) else 0) else 0) := by
      by_cases z : k + 1 < m
      · rw [if_pos z, show m - (k + 1) = (m - (k + 1 + 1)) + 1 by omega, show n - q = (n - (q + 1)) + 1 by omega, lw_s s f kd m n _ _ (by omega) (by omega), show n - (n - (q + 1) + 1) = q by omega, show m - (m - (k + 1 + 1) + 1) = k + 1 by omega, Int.mul_add]
        split
        · omega
        · rw [Int.mul_zero]; omega
      · rw [if_neg z, show m - (k + 1) = 0 by omega, lw_0, lw_0]; omega
    rw [e2]
    omega
theorem sq_0 (m n : Nat) : ∀ k : Nat, sq s f kd m n 0 (k + 1) = lw s f kd m n m n
  | 0 => by rw [sq, sq, cwv]; simp
  | k + 1 => by rw [sq, sq_0 m n k, cwv]; simp
theorem sq_c (m n : Nat) : ∀ q : Nat, q ≤ n → sq s f kd m n q (m + 1) = lw s f kd m n m n
  | 0, _ => sq_0 s f kd m n m
  | q + 1, h => by
    have e := sq_s s f kd m n q h m (Nat.le_refl m)
    rw [if_neg (Nat.lt_irrefl m)] at e
    rw [← sq_c m n q (by omega)]
    omega
theorem sq_e (m n : Nat) : ∀ k : Nat, k ≤ m → sq s f kd m n n k = 0
  | 0, _ => rfl
  | k + 1, h => by
    rw [sq, sq_e m n k (by omega), Nat.sub_self, show m - k = (m - (k + 1)) + 1 by omega, lw_z]; simp
theorem cwv_wl (n m : Nat) : ((wl (alS s kd f) n m 0 0).length : Int) = cwv s f kd n m := by
  have h := sq_c s f kd m n n (Nat.le_refl n)
  rw [sq, sq_e s f kd m n m (Nat.le_refl m), Nat.sub_self, Nat.sub_self, lw_0] at h
  have e : lw s f kd m n m n = ((wl (alS s kd f) n m 0 0).length : Int) := by
    unfold lw
    rw [show (m : Int) - m = 0 by omega, show (n : Int) - n = 0 by omega]
  rw [← e]; omega
theorem resS_n {b r g n m : Int} (hn : 0 ≤ n) (hm : 0 ≤ m) : (resS s f kd b r g n m).1 = cwv s f kd n.toNat m.toNat := by
  unfold resS
  rw [fw_n, cwv_wl]; omega
end CNT
