/-! rows of rising places, in order -/
def lst (f : Int → Int) : Nat → Int → List Int
  | 0, _ => []
  | d + 1, k => f k :: lst f d (k + 1)
/-- all rows that lay d letters, the first of them letter k, in the w places from lo on -/
def wl (A : Int → Int → Bool) : Nat → Nat → Int → Int → List (List Int)
  | _, 0, _, _ => [[]]
  | 0, _ + 1, _, _ => []
  | w + 1, d + 1, k, lo => (if A k lo then (wl A w d (k + 1) (lo + 1)).map (lo :: ·) else []) ++ wl A w (d + 1) k (lo + 1)
theorem wl_0 (A : Int → Int → Bool) (w : Nat) (k lo : Int) : wl A w 0 k lo = [[]] := by cases w <;> rfl
/-- the rows from a row on; those behind it -/
def frm (A : Int → Int → Bool) (n : Int) : List Int → Int → List (List Int)
  | [], _ => [[]]
  | q :: r, k => (if A k q then (frm A n r (k + 1)).map (q :: ·) else []) ++ wl A (n - q - 1).toNat (r.length + 1) k (q + 1)
def aft (A : Int → Int → Bool) (n : Int) : List Int → Int → List (List Int)
  | [], _ => []
  | q :: r, k => (if A k q then (aft A n r (k + 1)).map (q :: ·) else []) ++ wl A (n - q - 1).toNat (r.length + 1) k (q + 1)
def okr (A : Int → Int → Bool) : List Int → Int → Bool
  | [], _ => true
  | q :: r, k => A k q && okr A r (k + 1)
theorem frm_aft (A : Int → Int → Bool) (n : Int) : ∀ (a : List Int) (k : Int), frm A n a k = (if okr A a k then [a] else []) ++ aft A n a k
  | [], k => rfl
  | q :: r, k => by
    rw [frm, aft, okr, frm_aft A n r (k + 1)]
    cases A k q
    · simp
    · cases okr A r (k + 1)
      · simp
      · simp
def csc : Nat → Int → List Int
  | 0, _ => []
  | d + 1, q => q :: csc d (q + 1)
theorem csc_len : ∀ (d : Nat) (q : Int), (csc d q).length = d
  | 0, _ => rfl
  | d + 1, q => by rw [csc, List.length_cons, csc_len d]
theorem lst_len (f : Int → Int) : ∀ (d : Nat) (k : Int), (lst f d k).length = d
  | 0, _ => rfl
  | d + 1, q => by rw [lst, List.length_cons, lst_len f d]
theorem wl_few (A : Int → Int → Bool) : ∀ (w d : Nat) (k lo : Int), w < d → wl A w d k lo = []
  | w, 0, _, _, h => absurd h (by omega)
  | 0, d + 1, _, _, _ => rfl
  | w + 1, d + 1, k, lo, h => by
    rw [wl, wl_few A w d _ _ (by omega), wl_few A w (d + 1) _ _ (by omega)]
    split <;> rfl
theorem frm_csc (A : Int → Int → Bool) {n : Int} : ∀ (d : Nat) (lo k : Int), lo + d ≤ n → frm A n (csc d lo) k = wl A (n - lo).toNat d k lo
  | 0, lo, k, h => by rw [wl_0]; rfl
  | d + 1, lo, k, h => by
    rw [csc, frm, frm_csc A d (lo + 1) (k + 1) (by omega), csc_len, show (n - lo).toNat = (n - lo - 1).toNat + 1 by omega, wl, show (n - (lo + 1)).toNat = (n - lo - 1).toNat by omega]
theorem lst_congr {f g : Int → Int} : ∀ (d : Nat) (k : Int), (∀ j : Int, k ≤ j → j < k + d → f j = g j) → lst f d k = lst g d k
  | 0, _, _ => rfl
  | d + 1, k, h => by rw [lst, lst, h k (by omega) (by omega), lst_congr d (k + 1) (fun j a b => h j (by omega) (by omega))]
theorem lst_csc {f : Int → Int} : ∀ (d : Nat) (k q : Int), (∀ j : Int, k ≤ j → j < k + d → f j = q + (j - k)) → lst f d k = csc d q
  | 0, _, _, _ => rfl
  | d + 1, k, q, h => by rw [lst, csc, h k (by omega) (by omega), lst_csc d (k + 1) (q + 1) (fun j a b => by rw [h j (by omega) (by omega)]; omega), show q + (k - k) = q by omega]
theorem aft_last (A : Int → Int → Bool) {n m : Int} {f : Int → Int} : ∀ (d : Nat) (k : Int), m = k + d → (∀ j : Int, k ≤ j → j < m → f j = n - m + j) → aft A n (lst f d k) k = []
  | 0, _, _, _ => rfl
  | d + 1, k, hm, h => by
    rw [lst, aft, aft_last A d (k + 1) (by omega) (fun j a b => h j (by omega) b), lst_len, h k (by omega) (by omega), wl_few _ _ _ _ _ (by omega)]
    split <;> rfl
theorem aft_go (A : Int → Int → Bool) {n m k0 : Int} {f g : Int → Int} (hk : ¬ f k0 = n - m + k0) (hle : f k0 ≤ n - m + k0) (hm0 : k0 < m) (h : ∀ j : Int, k0 < j → j < m → f j = n - m + j) (hg : ∀ j : Int, 0 ≤ j → j < m → g j = if j < k0 then f j else f k0 + 1 + (j - k0)) : ∀ (d : Nat) (k : Int), 0 ≤ k → k ≤ k0 → m = k + d → aft A n (lst f d k) k = frm A n (lst g d k) k
  | 0, k, h0, h1, hm => absurd hm (by omega)
  | d + 1, k, h0, h1, hm => by
    rcases Int.lt_or_le k k0 with q | q
    · rw [lst, lst, aft, frm, aft_go A hk hle hm0 h hg d (k + 1) (by omega) (by omega) (by omega), hg k (by omega) (by omega), if_pos q, lst_len, lst_len]
    · have e : k = k0 := by omega
      subst e
      have e2 : lst g (d + 1) k = csc (d + 1) (f k + 1) := lst_csc (d + 1) k (f k + 1) (fun j a b => by rw [hg j (by omega) (by omega), if_neg (by omega)])
      rw [e2, frm_csc A (d + 1) (f k + 1) k (by omega), lst, aft, aft_last A d (k + 1) (by omega) (fun j a b => h j (by omega) b), lst_len, show (n - (f k + 1)).toNat = (n - f k - 1).toNat by omega]
      split <;> rfl
theorem okr_lst (A : Int → Int → Bool) (f : Int → Int) : ∀ (d : Nat) (k : Int), (okr A (lst f d k) k = true ↔ ∀ j : Int, k ≤ j → j < k + d → A j (f j) = true)
  | 0, k => ⟨fun _ j a b => absurd a (by omega), fun _ => rfl⟩
  | d + 1, k => by
    rw [lst, okr, Bool.and_eq_true, okr_lst A f d (k + 1)]
    constructor
    · rintro ⟨h1, h2⟩ j a b
      rcases Int.lt_or_le k j with q | q
      · exact h2 j (by omega) (by omega)
      · rw [show j = k by omega]; exact h1
    · intro h
      exact ⟨h k (by omega) (by omega), fun j a b => h j (by omega) (by omega)⟩
theorem wl_len (A : Int → Int → Bool) : ∀ (w d : Nat) (k lo : Int), (wl A w d k lo).length ≤ 2 ^ w
  | w, 0, k, lo => by rw [wl_0]; exact Nat.one_le_two_pow
  | 0, d + 1, k, lo => by rw [wl]; exact Nat.zero_le _
  | w + 1, d + 1, k, lo => by
    have h1 := wl_len A w d (k + 1) (lo + 1)
    have h2 := wl_len A w (d + 1) k (lo + 1)
    have h3 : 2 ^ (w + 1) = 2 ^ w + 2 ^ w := by rw [Nat.pow_succ]; omega
    rw [wl, List.length_append]
    split
    · rw [List.length_map]; omega
    · rw [List.length_nil]; omega
/-- what a row is worth -/
def rwt (P : Int → Int) (T : Int → Int → Int) : List Int → Int
  | [] => 0
  | [q] => P q
  | q :: x :: r => P q + T q x + rwt P T (x :: r)
/-- how many rows, the first of the greatest worth -/
def fw (W : List Int → Int) : List (List Int) → Int → Int → List Int → Int × Int × List Int
  | [], c, v, b => (c, v, b)
  | r :: l, c, v, b => if c = 0 ∨ v < W r then fw W l (c + 1) (W r) r else fw W l (c + 1) v b
theorem fw_yes {W : List Int → Int} {r : List Int} {l : List (List Int)} {c v : Int} {b : List Int} (h : c = 0 ∨ v < W r) : fw W (r :: l) c v b = fw W l (c + 1) (W r) r := by rw [fw, if_pos h]
theorem fw_no {W : List Int → Int} {r : List Int} {l : List (List Int)} {c v : Int} {b : List Int} (h : ¬ (c = 0 ∨ v < W r)) : fw W (r :: l) c v b = fw W l (c + 1) v b := by rw [fw, if_neg h]
/-- the worth, added from the first letter on -/
def wmv (P : Int → Int) (T : Int → Int → Int) (a : Int → Int) : Nat → Int
  | 0 => 0
  | k + 1 => wmv P T a k + P (a k) + (if (k : Int) = 0 then 0 else T (a (k - 1)) (a k))
theorem rwt_lst (P : Int → Int) (T : Int → Int → Int) (a : Int → Int) : ∀ (d : Nat) (k : Nat), wmv P T a (k + d + 1) = wmv P T a k + (if (k : Int) = 0 then 0 else T (a (k - 1)) (a k)) + rwt P T (lst a (d + 1) k)
  | 0, k => by rw [lst, lst, rwt, wmv]; omega
  | d + 1, k => by
    have h := rwt_lst P T a d (k + 1)
    have e : k + 1 + d + 1 = k + (d + 1) + 1 := by omega
    rw [e] at h
    have e2 : rwt P T (lst a (d + 1 + 1) k) = P (a k) + T (a k) (a ((k : Int) + 1)) + rwt P T (lst a (d + 1) ((k : Int) + 1)) := rfl
    rw [h, wmv, e2, if_neg (show ¬ ((k + 1 : Nat) : Int) = 0 by omega), show ((k + 1 : Nat) : Int) = (k : Int) + 1 by omega, show (k : Int) + 1 - 1 = k by omega]
    omega
theorem rwt_wmv (P : Int → Int) (T : Int → Int → Int) (a : Int → Int) (m : Nat) : rwt P T (lst a m 0) = wmv P T a m := by
  cases m with
  | zero => rfl
  | succ d =>
    have := rwt_lst P T a d 0
    rw [show 0 + d + 1 = d + 1 by omega] at this
    rw [this]
    show _ = (0 : Int) + (if ((0 : Nat) : Int) = 0 then 0 else _) + rwt P T (lst a (d + 1) 0)
    rw [if_pos (by omega)]
    omega
theorem wmv_s {P : Int → Int} {T : Int → Int → Int} {a : Int → Int} {k : Int} (h : 0 ≤ k) : wmv P T a (k + 1).toNat = wmv P T a k.toNat + P (a k) + (if k = 0 then 0 else T (a (k - 1)) (a k)) := by
  rw [show (k + 1).toNat = k.toNat + 1 by omega, wmv, show ((k.toNat : Nat) : Int) = k by omega]
theorem opl_q {bg k b q : Int} (hb : 0 ≤ b ∧ b ≤ 9) : 50 ≤ opl bg k b q ∧ opl bg k b q ≤ 68 := by
  unfold opl
  split
  · omega
  · split <;> omega
theorem ost_q {k r g q x : Int} (hr : 0 ≤ r ∧ r ≤ 9) (hg : 0 ≤ g ∧ g ≤ 9) (hq : 0 ≤ q ∧ q < 12) (hx : 0 ≤ x ∧ x < 12) : -110 ≤ ost k r g q x ∧ ost k r g q x ≤ 120 := by
  unfold ost
  split
  · omega
  · split
    · omega
    · obtain ⟨z, hz⟩ : ∃ z, z = (x - q) - 1 := ⟨_, rfl⟩
      rw [← hz]
      have hz2 : -12 ≤ z ∧ z ≤ 10 := by omega
      clear hz
      have h1 : g = 0 ∨ g = 1 ∨ g = 2 ∨ g = 3 ∨ g = 4 ∨ g = 5 ∨ g = 6 ∨ g = 7 ∨ g = 8 ∨ g = 9 := by omega
      rcases h1 with h | h | h | h | h | h | h | h | h | h <;> subst h <;> omega
theorem wmv_r {bg kd b r g : Int} {a : Int → Int} (hb : 0 ≤ b ∧ b ≤ 9) (hr : 0 ≤ r ∧ r ≤ 9) (hg : 0 ≤ g ∧ g ≤ 9) : ∀ (k : Nat), (∀ j : Int, 0 ≤ j → j < k → 0 ≤ a j ∧ a j < 12) → -200 * (k : Int) ≤ wmv (opl bg kd b) (ost kd r g) a k ∧ wmv (opl bg kd b) (ost kd r g) a k ≤ 200 * (k : Int)
  | 0, _ => by rw [wmv]; omega
  | k + 1, h => by
    have h1 := wmv_r (bg := bg) (kd := kd) hb hr hg k (fun j x y => h j x (by omega))
    have h2 := opl_q (bg := bg) (k := kd) (q := a k) hb
    rw [wmv]
    split
    · omega
    · have h3 := ost_q (k := kd) (q := a (k - 1)) (x := a k) hr hg (h _ (by omega) (by omega)) (h _ (by omega) (by omega))
      omega
/-! beginnings, as bits -/
theorem pw_bit (q : Nat) (i : Nat) : (2 ^ q : Nat).testBit i = decide (q = i) := Nat.testBit_two_pow
theorem bgv_bit (s : Int → Int) (q : Nat) : ∀ n : Nat, ((bgv s n).toNat.testBit q = true ↔ (q < n ∧ bgP s q))
  | 0 => by
    rw [bgv]
    constructor
    · intro h; simp at h
    · intro h; omega
  | n + 1 => by
    have h := bgv_bit s q n
    rw [bgv]
    by_cases hp : bgP s n
    · rw [if_pos hp]
      unfold bor pw
      rw [Int.toNat_natCast, Nat.testBit_or, Int.toNat_natCast, Int.toNat_natCast, pw_bit, Bool.or_eq_true, h, decide_eq_true_iff]
      constructor
      · rintro (⟨a, b⟩ | rfl)
        · exact ⟨by omega, b⟩
        · exact ⟨by omega, hp⟩
      · rintro ⟨a, b⟩
        rcases Nat.lt_or_ge q n with z | z
        · exact Or.inl ⟨z, b⟩
        · exact Or.inr (by omega)
    · rw [if_neg hp, h]
      constructor
      · rintro ⟨a, b⟩; exact ⟨by omega, b⟩
      · rintro ⟨a, b⟩
        rcases Nat.lt_or_ge q n with z | z
        · exact ⟨z, b⟩
        · rw [show q = n by omega] at b; exact absurd b hp
theorem band_pw {a : Int} {q : Nat} : band a (pw (q : Int)) = 0 ↔ ¬ a.toNat.testBit q = true := by
  unfold band pw
  rw [Int.toNat_natCast, Int.toNat_natCast]
  constructor
  · intro h hb
    have h0 : a.toNat &&& 2 ^ q = 0 := by omega
    have h1 : (a.toNat &&& 2 ^ q).testBit q = true := by rw [Nat.testBit_and, hb, pw_bit, decide_eq_true rfl]; rfl
    rw [h0, Nat.zero_testBit] at h1
    cases h1
  · intro h
    have h0 : a.toNat &&& 2 ^ q = 0 := by
      apply Nat.eq_of_testBit_eq
      intro i
      rw [Nat.testBit_and, pw_bit, Nat.zero_testBit]
      by_cases e : q = i
      · subst e
        cases hb : a.toNat.testBit q
        · rfl
        · exact absurd hb h
      · rw [decide_eq_false e, Bool.and_false]
    omega
theorem bgv_band {s : Int → Int} {n : Nat} {q : Int} (h0 : 0 ≤ q) (h1 : q < n) : band (bgv s n) (pw q) = 0 ↔ ¬ bgP s q := by
  obtain ⟨k, rfl⟩ : ∃ k : Nat, q = k := ⟨q.toNat, by omega⟩
  rw [band_pw, bgv_bit]
  constructor
  · intro h b; exact h ⟨by omega, b⟩
  · intro h b; exact h b.2
theorem opl_n {s : Int → Int} {n : Nat} {q kd b : Int} (h0 : 0 ≤ q ∧ q < n) (h : ¬ bgP s q) : opl (bgv s n) kd b q = 50 := by unfold opl; rw [if_pos ((bgv_band h0.1 h0.2).mpr h)]
theorem opl_2 {s : Int → Int} {n : Nat} {q kd b : Int} (h0 : 0 ≤ q ∧ q < n) (h : bgP s q) (hk : kd = 2 ∧ q = 0) : opl (bgv s n) kd b q = 50 + 2 * b := by unfold opl; rw [if_neg (fun z => (bgv_band h0.1 h0.2).mp z h), if_pos hk]
theorem opl_1 {s : Int → Int} {n : Nat} {q kd b : Int} (h0 : 0 ≤ q ∧ q < n) (h : bgP s q) (hk : ¬ (kd = 2 ∧ q = 0)) : opl (bgv s n) kd b q = 50 + b := by unfold opl; rw [if_neg (fun z => (bgv_band h0.1 h0.2).mp z h), if_neg hk]
/-! alike -/
theorem alk_low {s kd x : Int} (hs : (97 ≤ s ∧ s ≤ 122) ∨ (65 ≤ s ∧ s ≤ 90) ∨ s = 95) (hx : (97 ≤ x ∧ x ≤ 122) ∨ (65 ≤ x ∧ x ≤ 90)) (hk : ¬ kd = 1) : alk s kd x ↔ lowv s = lowv x := by
  unfold alk lowv lnum
  split <;> split <;> split <;> split <;> omega
theorem alk_one {s kd x : Int} (hk : kd = 1) : alk s kd x ↔ s = x := by
  unfold alk
  omega
abbrev alA (sa : Int → Int) (x kd : Int) (f : Int → Int) : Int → Int → Bool := fun k q => decide (alk (sa (12 * x + q)) kd (f k))
