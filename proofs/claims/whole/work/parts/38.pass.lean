/-! letters as bits, and letters sought one by one -/
theorem hsL_iff (s : Int → Int) (u : Int) : ∀ n : Nat, hsL s u n = true ↔ ∃ q : Nat, q < n ∧ lowv (s q) = u
  | 0 => ⟨fun h => (by cases h), fun ⟨q, h, _⟩ => absurd h (by omega)⟩
  | n + 1 => by
    rw [hsL, Bool.or_eq_true, hsL_iff s u n, decide_eq_true_iff]
    constructor
    · rintro (⟨q, h1, h2⟩ | h)
      · exact ⟨q, by omega, h2⟩
      · exact ⟨n, by omega, h⟩
    · rintro ⟨q, h1, h2⟩
      rcases Nat.lt_or_ge q n with z | z
      · exact Or.inl ⟨q, z, h2⟩
      · rw [show q = n by omega] at h2; exact Or.inr h2
theorem psL_iff (s : Int → Int) (n : Nat) (f : Int → Int) : ∀ m : Nat, psL s n f m = true ↔ ∀ k : Nat, k < m → hsL s (lowv (f k)) n = true
  | 0 => ⟨fun _ k h => absurd h (by omega), fun _ => rfl⟩
  | m + 1 => by
    rw [psL, Bool.and_eq_true, psL_iff s n f m]
    constructor
    · rintro ⟨h1, h2⟩ k hk
      rcases Nat.lt_or_ge k m with z | z
      · exact h1 k z
      · rw [show k = m by omega]; exact h2
    · intro h
      exact ⟨fun k hk => h k (by omega), h m (by omega)⟩
theorem pw_n (x : Int) (i : Nat) : (pw x).toNat.testBit i = decide (x.toNat = i) := by
  unfold pw
  rw [Int.toNat_natCast, pw_bit]
theorem bor_bit (a b : Int) (i : Nat) : (bor a b).toNat.testBit i = (a.toNat.testBit i || b.toNat.testBit i) := by
  unfold bor
  rw [Int.toNat_natCast, Nat.testBit_or]
theorem lbv_bit (s : Int → Int) (i : Nat) : ∀ n : Nat, (lbv s n).toNat.testBit i = true ↔ ∃ q : Nat, q < n ∧ ltr (s q) ∧ (lnum (s q)).toNat = i
  | 0 => by
    rw [lbv]
    exact ⟨fun h => by simp at h, fun ⟨q, h, _⟩ => absurd h (by omega)⟩
  | n + 1 => by
    have ih := lbv_bit s i n
    rw [lbv]
    by_cases hp : (97 ≤ s n ∧ s n ≤ 122) ∨ (65 ≤ s n ∧ s n ≤ 90)
    · rw [if_pos hp, bor_bit, Bool.or_eq_true, ih, pw_n, decide_eq_true_iff]
      constructor
      · rintro (⟨q, h1, h2⟩ | h)
        · exact ⟨q, by omega, h2⟩
        · exact ⟨n, by omega, hp, h⟩
      · rintro ⟨q, h1, h2⟩
        rcases Nat.lt_or_ge q n with z | z
        · exact Or.inl ⟨q, z, h2⟩
        · rw [show q = n by omega] at h2; exact Or.inr h2.2
    · rw [if_neg hp, ih]
      constructor
      · rintro ⟨q, h1, h2⟩; exact ⟨q, by omega, h2⟩
      · rintro ⟨q, h1, h2⟩
        rcases Nat.lt_or_ge q n with z | z
        · exact ⟨q, z, h2⟩
        · rw [show q = n by omega] at h2; exact absurd h2.1 hp
theorem wlb_bit (f : Int → Int) (i : Nat) : ∀ m : Nat, (wlb f m).toNat.testBit i = true ↔ ∃ k : Nat, k < m ∧ (lnum (f k)).toNat = i
  | 0 => by
    rw [wlb]
    exact ⟨fun h => by simp at h, fun ⟨q, h, _⟩ => absurd h (by omega)⟩
  | m + 1 => by
    rw [wlb, bor_bit, Bool.or_eq_true, wlb_bit f i m, pw_n, decide_eq_true_iff]
    constructor
    · rintro (⟨q, h1, h2⟩ | h)
      · exact ⟨q, by omega, h2⟩
      · exact ⟨m, by omega, h⟩
    · rintro ⟨q, h1, h2⟩
      rcases Nat.lt_or_ge q m with z | z
      · exact Or.inl ⟨q, z, h2⟩
      · rw [show q = m by omega] at h2; exact Or.inr h2
theorem bandn_0 (a b : Int) : bandn a b = 0 ↔ ∀ i : Nat, a.toNat.testBit i = true → b.toNat.testBit i = true := by
  unfold bandn
  constructor
  · intro h i hi
    have h0 : a.toNat ^^^ (a.toNat &&& b.toNat) = 0 := by omega
    have h1 : (a.toNat ^^^ (a.toNat &&& b.toNat)).testBit i = false := by rw [h0, Nat.zero_testBit]
    rw [Nat.testBit_xor, Nat.testBit_and, hi] at h1
    cases hb : b.toNat.testBit i
    · rw [hb] at h1; cases h1
    · rfl
  · intro h
    have h0 : a.toNat ^^^ (a.toNat &&& b.toNat) = 0 := by
      apply Nat.eq_of_testBit_eq
      intro i
      rw [Nat.testBit_xor, Nat.testBit_and, Nat.zero_testBit]
      cases ha : a.toNat.testBit i
      · rfl
      · rw [h i ha]; rfl
    omega
theorem low_ltr {c x : Int} (hc : sgn c) (hx : ltr x) : lowv c = lowv x ↔ ltr c ∧ (lnum c).toNat = (lnum x).toNat := by
  unfold lowv lnum ltr sgn at *
  split <;> split <;> split <;> split <;> omega
theorem pass_iff {s f : Int → Int} {n m : Nat} (hs : ∀ q : Nat, q < n → sgn (s q)) (hf : ∀ k : Nat, k < m → ltr (f k)) : bandn (wlb f m) (lbv s n) = 0 ↔ psL s n f m = true := by
  rw [bandn_0, psL_iff]
  constructor
  · intro h k hk
    obtain ⟨q, h1, h2, h3⟩ := (lbv_bit s _ n).mp (h _ ((wlb_bit f _ m).mpr ⟨k, hk, rfl⟩))
    exact (hsL_iff s _ n).mpr ⟨q, h1, (low_ltr (hs q h1) (hf k hk)).mpr ⟨h2, h3⟩⟩
  · intro h i hi
    obtain ⟨k, h1, h2⟩ := (wlb_bit f i m).mp hi
    obtain ⟨q, h3, h4⟩ := (hsL_iff s _ n).mp (h k h1)
    have h5 := (low_ltr (hs q h3) (hf k h1)).mp h4
    exact (lbv_bit s i n).mpr ⟨q, h3, h5.1, by rw [h5.2, h2]⟩
theorem hsL_congr {s v : Int → Int} {u : Int} {n : Nat} (h : ∀ q : Nat, q < n → s q = v q) : hsL s u n = hsL v u n := by
  have e : (hsL s u n = true ↔ hsL v u n = true) := by
    rw [hsL_iff, hsL_iff]
    constructor
    · rintro ⟨q, a, b⟩; exact ⟨q, a, by rw [← h q a]; exact b⟩
    · rintro ⟨q, a, b⟩; exact ⟨q, a, by rw [h q a]; exact b⟩
  cases h1 : hsL s u n <;> cases h2 : hsL v u n <;> simp_all
theorem psL_congr {s v f g : Int → Int} {n : Nat} : ∀ m : Nat, (∀ q : Nat, q < n → s q = v q) → (∀ k : Nat, k < m → f k = g k) → psL s n f m = psL v n g m
  | 0, _, _ => rfl
  | m + 1, h, hf => by rw [psL, psL, psL_congr m h (fun k hk => hf k (by omega)), hf m (by omega), hsL_congr h]
theorem wl_congr2 {A B : Int → Int → Bool} : ∀ (w d : Nat) (k lo : Int), (∀ j q : Int, k ≤ j → j < k + d → lo ≤ q → q < lo + w → A j q = B j q) → wl A w d k lo = wl B w d k lo
  | w, 0, _, _, _ => by rw [wl_0, wl_0]
  | 0, d + 1, _, _, _ => rfl
  | w + 1, d + 1, k, lo, h => by
    rw [wl, wl, wl_congr2 w d (k + 1) (lo + 1) (fun j q a b c e => h j q (by omega) (by omega) (by omega) (by omega)), wl_congr2 w (d + 1) k (lo + 1) (fun j q a b c e => h j q a b (by omega) (by omega)), h k lo (by omega) (by omega) (by omega) (by omega)]
theorem resS_cs {s v f g_ : Int → Int} {kd b r g n m : Int} (hn : 0 ≤ n) (hs : ∀ k : Int, 0 ≤ k → k < n → s k = v k) (hf : ∀ i : Int, 0 ≤ i → i < m → f i = g_ i) (hm : 0 ≤ m) : resS s f kd b r g n m = resS v g_ kd b r g n m := by
  unfold resS
  rw [bgv_congr n.toNat (fun k a b => hs k a (by omega)), wl_congr2 (A := alS s kd f) (B := alS v kd g_) _ _ _ _ (fun j q a b c e => by unfold alS; rw [hf j a (by omega), hs q c (by omega)])]
/-- where a way is, each letter has its place -/
theorem wl_mem {A : Int → Int → Bool} : ∀ (w d : Nat) (k lo : Int) (a : List Int), a ∈ wl A w d k lo → ∀ j : Int, k ≤ j → j < k + d → ∃ q : Int, lo ≤ q ∧ q < lo + w ∧ A j q = true
  | w, 0, _, _, _, _, j, h1, h2 => absurd h2 (by omega)
  | 0, d + 1, _, _, _, h, _, _, _ => by rw [wl] at h; cases h
  | w + 1, d + 1, k, lo, a, h, j, h1, h2 => by
    rw [wl, List.mem_append] at h
    rcases h with h | h
    · split at h
      · rename_i hA
        obtain ⟨z, hz, -⟩ := List.mem_map.mp h
        rcases Int.lt_or_le k j with q | q
        · obtain ⟨y, y1, y2, y3⟩ := wl_mem w d (k + 1) (lo + 1) z hz j (by omega) (by omega)
          exact ⟨y, by omega, by omega, y3⟩
        · rw [show j = k by omega]; exact ⟨lo, by omega, by omega, hA⟩
      · cases h
    · obtain ⟨y, y1, y2, y3⟩ := wl_mem w (d + 1) k (lo + 1) a h j h1 h2
      exact ⟨y, by omega, by omega, y3⟩
theorem way_pass {s f : Int → Int} {kd b r g n m : Int} (hn : 0 ≤ n) (hm : 0 ≤ m) (hs : ∀ q : Int, 0 ≤ q → q < n → sgn (s q)) (hf : ∀ k : Int, 0 ≤ k → k < m → ltr (f k)) (h : ¬ (resS s f kd b r g n m).1 = 0) : psL s n.toNat f m.toNat = true := by
  unfold resS at h
  rw [fw_n] at h
  cases hl : wl (alS s kd f) n.toNat m.toNat 0 0 with
  | nil => rw [hl] at h; exact absurd rfl h
  | cons a l =>
    rw [psL_iff]
    intro k hk
    obtain ⟨q, q1, q2, q3⟩ := wl_mem _ _ _ _ a (by rw [hl]; exact List.mem_cons_self) k (by omega) (by omega)
    have q4 : alk (s q) kd (f k) := of_decide_eq_true q3
    have hsq := hs q (by omega) (by omega)
    have hfk := hf k (by omega) (by omega)
    refine (hsL_iff s _ _).mpr ⟨q.toNat, by omega, ?_⟩
    rw [show ((q.toNat : Nat) : Int) = q by omega]
    unfold alk at q4
    rcases q4 with e | ⟨-, e1, e2⟩
    · rw [e]
    · exact (low_ltr hsq hfk).mpr ⟨e1, by rw [e2]⟩
theorem psb_congr {Pr Q : Int → Prop} : ∀ n : Nat, (∀ y : Int, 0 ≤ y → y < n → (Pr y ↔ Q y)) → psb Pr n = psb Q n
  | 0, _ => rfl
  | n + 1, h => by
    rw [psb, psb, psb_congr n (fun y a b => h y a (by omega))]
    have e := h n (by omega) (by omega)
    by_cases z : Pr n
    · rw [if_pos z, if_pos (e.mp z)]
    · rw [if_neg z, if_neg (fun w => z (e.mpr w))]
