/-! behind both constructors: the relation -/
set_option maxRecDepth 100000 in
theorem it78 : 78 ≤ itm t78 7 ∧ (∀ k : Nat, k < 7 → itm t78 k < 78 ∧ ¬ bItm t78 (itm t78 k) = -1) ∧ cnt t78 7 = 6 ∧ scv t78 7 3 1 = 4 ∧ scv t78 7 2 3 = 3 ∧ scv t78 7 1 5 = 1 := by decide +kernel
set_option maxRecDepth 100000 in
theorem nm78 : ∀ x : Nat, x < 6 → t78 (itm t78 x) = 115 ∧ cnt t78 x = x ∧ sgc t78 (itm t78 x + 3) 13 = szv x ∧ t78 (itm t78 x + 1) - 48 = kdv x ∧ ∀ k : Nat, k < szv x → t78 ((itm t78 x + 3) + (k : Int)) = ltv (offv x + k) ∧ ((97 ≤ t78 ((itm t78 x + 3) + (k : Int)) ∧ t78 ((itm t78 x + 3) + (k : Int)) ≤ 122) ∨ (65 ≤ t78 ((itm t78 x + 3) + (k : Int)) ∧ t78 ((itm t78 x + 3) + (k : Int)) ≤ 90) ∨ t78 ((itm t78 x + 3) + (k : Int)) = 95) := by decide +kernel
theorem sC0_0 {c : Nat} {j : Int} (h : ¬ c = 59) (h2 : ¬ c = 60) : sC0 c j = 0 := by unfold sC0; rw [us_nc h2, us_nc h]
theorem JJ_0 {S : St} {M : Nat → Int → Int} (hc : JC0 S) (hm : JM0 M) : JJ S M 0 := by
  obtain ⟨U, V, hU, ⟨I, W, q1, q2, q3, q4, q5⟩, rfl⟩ := hc
  obtain ⟨i1, i2, i3, i4, i5, i6⟩ := it78
  have eI : I = 7 := itm_u q1 q2 i1 i2
  subst eI
  obtain ⟨l1, l2, l3, l4, l5, l6, l7⟩ := q4
  obtain ⟨m1, m2, m3, ⟨m4, m5, m6⟩, ⟨m7, m8⟩, ⟨m9, m10, m11, m12, m13, m14⟩, ⟨m15, m16⟩, m17⟩ := hm
  have fV : ∀ (c : Nat) (i : Int), ¬ c = 50 → ¬ c = 8 → ¬ c = 56 → ¬ c = 58 → us V 50 0 c i = W c i := fun c i a b d k => by rw [us_nc a, q5, us_nc k, us_nc d, ua_nc b]
  have u0 : ∀ (c : Nat) (i : Int), ¬ c = 0 → ¬ c = 50 → ¬ c = 59 → ¬ c = 60 → U c i = 0 := fun c i a b d k => (hU.2.2 c i a b).trans (sC0_0 d k)
  have z : ∀ (c : Nat) (i : Int), ¬ c = 0 → ¬ c = 50 → ¬ c = 8 → ¬ c = 56 → ¬ c = 58 → ¬ (2 ≤ c ∧ c ≤ 7) → ¬ (20 ≤ c ∧ c < 28) → ¬ (51 ≤ c ∧ c ≤ 55) → ¬ c = 59 → ¬ c = 60 → us V 50 0 c i = 0 := fun c i a b d k n o p q r t => (fV c i b d k n).trans ((l7 c i o p q).trans (u0 c i a b r t))
  have e50 : us V 50 0 50 0 = 0 := us_eq
  have e8 : ∀ i : Int, us V 50 0 8 i = 0 := fun i => by
    rw [us_nc (by decide), q5, us_nc (by decide), us_nc (by decide), ua_at]
    by_cases h : i = 0
    · rw [if_pos ⟨rfl, h⟩]
    · rw [if_neg (fun q => h q.2), l7 8 i (by decide) (by decide) (by decide), u0 8 i (by decide) (by decide) (by decide) (by decide)]
  have e56 : us V 50 0 56 0 = 0 := by rw [us_nc (by decide), q5, us_nc (by decide), us_eq]
  have e58 : us V 50 0 58 0 = 1 := by rw [us_nc (by decide), q5, us_eq, u0 58 0 (by decide) (by decide) (by decide) (by decide)]; rfl
  have e59 : us V 50 0 59 0 = 1 := by rw [fV 59 0 (by decide) (by decide) (by decide) (by decide), l7 59 0 (by decide) (by decide) (by decide), hU.2.2 59 0 (by decide) (by decide)]; rfl
  have e51 : us V 50 0 51 0 = 6 := by rw [fV 51 0 (by decide) (by decide) (by decide) (by decide), l1, i3]
  have e52 : us V 50 0 52 0 = 6 := by rw [fV 52 0 (by decide) (by decide) (by decide) (by decide), l2, i3, u0 52 0 (by decide) (by decide) (by decide) (by decide)]; rfl
  have e53 : us V 50 0 53 0 = 4 := by rw [fV 53 0 (by decide) (by decide) (by decide) (by decide), l3, i4]
  have e54 : us V 50 0 54 0 = 3 := by rw [fV 54 0 (by decide) (by decide) (by decide) (by decide), l4, i5]
  have e55 : us V 50 0 55 0 = 1 := by rw [fV 55 0 (by decide) (by decide) (by decide) (by decide), l5, i6]
  have zz : ∀ (c : Nat) (i : Int), (8 < c ∧ c < 20) ∨ (28 ≤ c ∧ c < 50) ∨ c = 57 ∨ (60 < c) → us V 50 0 c i = 0 := fun c i h => z c i (by omega) (by omega) (by omega) (by omega) (by omega) (by omega) (by omega) (by omega) (by omega) (by omega)
  have hN : JN (us V 50 0) M (fun i => i) := by
    have key : ∀ x : Int, 0 ≤ x → x < 6 → NmOK (us V 50 0) x.toNat ∧ RN (us V 50 0) M x.toNat x := fun x x0 x1 => by
      obtain ⟨n, rfl⟩ : ∃ n : Nat, x = n := ⟨x.toNat, by omega⟩
      have hn : n < 6 := by omega
      rw [Int.toNat_natCast]
      obtain ⟨g1, g2, g3, g4, g5⟩ := nm78 n hn
      obtain ⟨⟨z1, z2⟩, z3, z4, z5, z6⟩ := nm6 n hn
      obtain ⟨⟨y1, y2, y3, y4⟩, y5⟩ := m3 n hn
      have hl := l6 n (by omega) g1
      rw [g2, Int.toNat_natCast, u0 52 0 (by decide) (by decide) (by decide) (by decide), Int.zero_add] at hl
      obtain ⟨v1, v2, v3, v4, v5, v6, v7⟩ := hl
      rw [g3] at v1 v5 v6 v7
      have fV2 : ∀ (c : Nat) (i : Int), (2 ≤ c ∧ c ≤ 7) ∨ (20 ≤ c ∧ c < 28) → us V 50 0 c i = W c i := fun c i h => fV c i (by omega) (by omega) (by omega) (by omega)
      have e20 : us V 50 0 (20 + n) = W (20 + n) := funext (fun i => fV2 _ i (by omega))
      have hb := bgv_r (fun k_ => t78 ((itm t78 n + 3) + k_)) (szv n) (by omega)
      have hlb := lbv_r (fun k_ => t78 ((itm t78 n + 3) + k_)) (szv n)
      have hs : ∀ i : Int, 0 ≤ i → i < szv n → W (20 + n) i = ltv (offv n + i.toNat) ∧ sgn (W (20 + n) i) := fun i i0 i1 => by
        have h1 := g5 i.toNat (by omega)
        rw [show ((i.toNat : Nat) : Int) = i by omega] at h1
        rw [v7 i i0 i1]
        exact h1
      constructor
      · unfold NmOK
        rw [fV2 2 _ (by omega), fV2 3 _ (by omega), fV2 4 _ (by omega), fV2 5 _ (by omega), fV2 6 _ (by omega), fV2 7 _ (by omega), e20, v1, v2, v3, v4, v5, v6, g4, Int.toNat_natCast]
        refine ⟨by omega, by omega, by omega, by omega, hb, hlb, fun i i0 i1 => ?_⟩
        have := (hs i i0 i1).2
        unfold sgn at this
        omega
      · unfold RN
        rw [fV2 2 _ (by omega), fV2 3 _ (by omega), fV2 4 _ (by omega), fV2 5 _ (by omega), fV2 6 _ (by omega), fV2 7 _ (by omega), e20, v1, v2, v3, v4, v5, v6, g4, Int.toNat_natCast, y1, y2, y3, y5]
        refine ⟨rfl, rfl, rfl, rfl, bgv_congr _ (fun i i0 i1 => (v7 i i0 i1).symm), lbv_congr _ (fun i i0 i1 => (v7 i i0 i1).symm), fun i i0 i1 => ⟨?_, (hs i i0 i1).2⟩⟩
        have h2 := y4 i.toNat (by omega)
        rw [show ((i.toNat : Nat) : Int) = i by omega] at h2
        rw [h2, (hs i i0 i1).1]
    unfold JN
    rw [e51, m2]
    exact ⟨by omega, fun i hi => hi, fun i j _ _ h => h, fun x a b => (key x a b).1, rfl, fun x a b => (key x a b).2⟩
  show JT (us V 50 0) M ∧ JN (us V 50 0) M (fun i => i) ∧ JS (us V 50 0) M ∧ JW (us V 50 0) M ∧ JC (us V 50 0) M 0 ∧ JH (us V 50 0) M 0 ∧ JA (us V 50 0) M ∧ JK (us V 50 0) M ∧ nxi (us V 50 0)
  refine ⟨⟨by rw [e50]; omega, fun i a b => absurd b (by rw [e50]; omega), by rw [e50, m1], fun i a b => absurd b (by rw [e50]; omega)⟩, hN, ?_, ?_, ?_, ?_, ?_, ?_, ?_⟩
  · unfold JS
    rw [e53, e54, e55, m4, m5, m6]
    omega
  · unfold JW
    rw [e56, m7, m8, e8 0]
    refine ⟨fun w hw => ?_, by omega, ⟨rfl, fun i a b => absurd b (by omega)⟩, rfl, fun q hq => absurd hq (by omega)⟩
    rw [e8]
    exact ⟨by omega, fun i a b => absurd b (by omega)⟩
  · unfold JC
    rw [e52, zz 57 0 (by omega), e58, e59, m9, m10, m11, m14]
    omega
  · unfold JH
    rw [zz 61 0 (by omega), zz 62 0 (by omega), m12, m13]
    omega
  · unfold JA
    rw [zz 63 0 (by omega), m15]
    refine ⟨by omega, fun i a b => ?_, rfl, fun i a b => ?_⟩
    · rw [zz 14 i (by omega)]; omega
    · rw [zz 14 i (by omega), m16]
  · intro q a b
    obtain ⟨k1, k2, k3, k4⟩ := m17 q a b
    unfold RK
    rw [zz 10 q (by omega), zz 11 q (by omega), zz 12 q (by omega), zz 13 q (by omega)]
    exact ⟨by omega, Or.inl ⟨rfl, k1, k2, k3, k4⟩⟩
  · intro c q hc a b
    show -1 ≤ us V 50 0 (40 + c) q ∧ us V 50 0 (40 + c) q < 12
    rw [zz _ q (by omega)]
    omega
