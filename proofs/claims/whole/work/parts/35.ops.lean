theorem bgv_congr {s v : Int → Int} : ∀ n : Nat, (∀ k : Int, 0 ≤ k → k < n → s k = v k) → bgv s n = bgv v n
  | 0, _ => rfl
  | n + 1, h => by
    have e : bgP s n ↔ bgP v n := by
      unfold bgP
      rw [h n (by omega) (by omega)]
      by_cases z : (n : Int) = 0
      · constructor <;> (rintro ⟨a, b⟩; exact ⟨a, Or.inl z⟩)
      · rw [h (n - 1) (by omega) (by omega)]
    rw [bgv, bgv, bgv_congr n (fun k a b => h k a (by omega))]
    by_cases q : bgP s n
    · rw [if_pos q, if_pos (e.mp q)]
    · rw [if_neg q, if_neg (fun z => q (e.mpr z))]
theorem JJ_n {S : St} {M : Nat → Int → Int} {n : Int} (h : JJ S M n) (hn : n < 600) : JJ S M (n + 1) := by
  obtain ⟨hT, hN, hS, hW, hC, hH, hA, hK, hX⟩ := id h
  exact JJ_of hT hN hS hW (JC_fr hn (fun _ _ _ => rfl) (fun _ _ _ => rfl) hC) (JH_fr (fun _ _ _ => rfl) (fun _ _ _ => rfl) hH) hA hK hX
theorem JT_write {F M : Nat → Int → Int} {x : Int} (h : JT F M) (hx : 32 ≤ x ∧ x ≤ 126) (hl : F 50 0 < 200) : JT (us (ua F 0 (F 50 0) x) 50 (F 50 0 + 1)) (us (ua M 1 (M 50 0) x) 50 (M 50 0 + 1)) := by
  obtain ⟨h1, h2, h3, h4⟩ := h
  unfold JT
  rw [us_eq, us_eq]
  refine ⟨by omega, fun i a b => ?_, by omega, fun i a b => ?_⟩
  · rw [us_nc (by decide), ua_at]
    split
    · exact hx
    · exact h2 i a (by omega)
  · rw [us_nc (by decide), us_nc (by decide), ua_at, ua_at]
    by_cases e : i = F 50 0
    · rw [if_pos ⟨rfl, by omega⟩, if_pos ⟨rfl, e⟩]
    · rw [if_neg (by omega), if_neg (by omega)]
      exact h4 i a (by omega)
theorem JT_wipe {F M : Nat → Int → Int} : JT (us F 50 0) (us M 50 0) := by
  unfold JT
  rw [us_eq, us_eq]
  exact ⟨by omega, fun i a b => absurd b (by omega), rfl, fun i a b => absurd b (by omega)⟩
theorem ltx_txt {S : St} {M : Nat → Int → Int} (h : JT S.1 M) : ltx (M 1) (M 50 0) = txat S := by
  obtain ⟨h1, h2, h3, h4⟩ := h
  funext x
  unfold ltx txat
  rw [h3]
  by_cases e : 0 ≤ x ∧ x < S.1 50 0
  · rw [if_pos e, if_pos e, h4 x e.1 e.2]
  · rw [if_neg e, if_neg e]
theorem JW_type {F M : Nat → Int → Int} {x a b : Int} (h : JW F M) (hx : ltr x) (ha : a = F 8 0) (hb : b = M 53 0) (hl : a < 6) : JW (ua (ua F 16 a x) 8 0 (a + 1)) (us (ua M 12 b x) 53 (b + 1)) := by
  obtain ⟨h1, h2, h3, h4, h5⟩ := h
  have h10 := h1 0 (by decide)
  have e0 : ∀ w : Nat, ¬ w = 0 → ua (ua F 16 a x) 8 0 (a + 1) 8 (w : Int) = F 8 (w : Int) := fun w hw => by rw [ua_ni (by omega), ua_nc (by decide)]
  have e1 : ∀ (w : Nat) (i : Int), ¬ w = 0 → ua (ua F 16 a x) 8 0 (a + 1) (16 + w) i = F (16 + w) i := fun w i hw => by rw [ua_nc (by omega), ua_nc (by omega)]
  have e2 : ua (ua F 16 a x) 8 0 (a + 1) 8 ((0 : Nat) : Int) = a + 1 := ua_eq
  have e3 : ∀ i : Int, ua (ua F 16 a x) 8 0 (a + 1) (16 + 0) i = if i = a then x else F (16 + 0) i := fun i => by
    rw [ua_nc (by decide), ua_at]
    by_cases q : i = a
    · rw [if_pos ⟨rfl, q⟩, if_pos q]
    · rw [if_neg (fun z => q z.2), if_neg q]
  refine ⟨fun w hw => ?_, ?_, ⟨?_, fun i p q => ?_⟩, ?_, fun q hq => ?_⟩
  · by_cases hw0 : w = 0
    · subst hw0
      rw [e2]
      refine ⟨by have := h10.1; have h11 : F 8 ((0 : Nat) : Int) = F 8 0 := rfl; omega, fun i p q => ?_⟩
      rw [e3]
      split
      · exact hx
      · exact h10.2 i p (by show i < F 8 0; omega)
    · rw [e0 w hw0]
      refine ⟨(h1 w hw).1, fun i p q => ?_⟩
      rw [e1 w i hw0]; exact (h1 w hw).2 i p q
  · rw [ua_nc (by decide), ua_nc (by decide)]; exact h2
  · rw [us_eq]; show b + 1 = ua (ua F 16 a x) 8 0 (a + 1) 8 0; rw [ua_eq, ha, hb, h3.1]
  · have q2 : i < a + 1 := by rw [show ua (ua F 16 a x) 8 0 (a + 1) 8 0 = a + 1 from ua_eq] at q; exact q
    rw [us_nc (by decide), e3, ua_at]
    by_cases z : i = a
    · rw [if_pos ⟨rfl, by rw [hb, h3.1]; omega⟩, if_pos z]
    · rw [if_neg (fun y => z (by have := y.2; rw [hb, h3.1] at this; omega)), if_neg z]; exact h3.2 i p (by omega)
  · rw [us_nc (by decide), ua_nc (by decide), ua_nc (by decide), ua_nc (by decide)]; exact h4
  · rw [ua_nc (by decide), ua_nc (by decide)] at hq
    rw [us_nc (by decide), ua_nc (by decide), e0 _ (by omega)]
    refine ⟨(h5 q hq).1, fun i p r => ?_⟩
    rw [us_nc (by decide), ua_nc (by decide), e1 _ _ (by omega)]; exact (h5 q hq).2 i p r
theorem JW_untype {F M : Nat → Int → Int} (h : JW F M) (hl : 0 < F 8 0) : JW (ua F 8 0 (F 8 0 - 1)) (us M 53 (M 53 0 - 1)) := by
  obtain ⟨h1, h2, h3, h4, h5⟩ := h
  have h10 := h1 0 (by decide)
  have e0 : ∀ w : Nat, ¬ w = 0 → ua F 8 0 (F 8 0 - 1) 8 (w : Int) = F 8 (w : Int) := fun w hw => ua_ni (by omega)
  have e1 : ∀ (w : Nat) (i : Int), ua F 8 0 (F 8 0 - 1) (16 + w) i = F (16 + w) i := fun w i => ua_nc (by omega)
  have e2 : ua F 8 0 (F 8 0 - 1) 8 ((0 : Nat) : Int) = F 8 0 - 1 := ua_eq
  have e3 : ua F 8 0 (F 8 0 - 1) 8 0 = F 8 0 - 1 := ua_eq
  refine ⟨fun w hw => ?_, ?_, ⟨?_, fun i p q => ?_⟩, ?_, fun q hq => ?_⟩
  · by_cases hw0 : w = 0
    · subst hw0
      rw [e2]
      refine ⟨by have := h10.1; have h11 : F 8 ((0 : Nat) : Int) = F 8 0 := rfl; omega, fun i p q => ?_⟩
      rw [e1]; exact h10.2 i p (by show i < F 8 0; omega)
    · rw [e0 w hw0]
      refine ⟨(h1 w hw).1, fun i p q => ?_⟩
      rw [e1 w i]; exact (h1 w hw).2 i p q
  · rw [ua_nc (by decide)]; exact h2
  · rw [us_eq, e3, h3.1]
  · rw [e3] at q
    rw [us_nc (by decide), e1]; exact h3.2 i p (by omega)
  · rw [us_nc (by decide), ua_nc (by decide)]; exact h4
  · rw [ua_nc (by decide)] at hq
    rw [us_nc (by decide), e0 _ (by omega)]
    refine ⟨(h5 q hq).1, fun i p r => ?_⟩
    rw [us_nc (by decide), e1]; exact (h5 q hq).2 i p r
theorem JN_5 {F M : Nat → Int → Int} {P : Nat → Nat} {x v : Int} (h : JN F M P) (hx : 0 ≤ x ∧ x < F 51 0) (hv : 0 ≤ v ∧ v ≤ 100000) : JN (ua F 5 ((P x.toNat : Nat) : Int) v) (ua M 6 x v) P := by
  obtain ⟨h1, h2, h3, h4, h5, h6⟩ := h
  have eF : ∀ (c : Nat) (i : Int), ¬ c = 5 → ua F 5 ((P x.toNat : Nat) : Int) v c i = F c i := fun c i hc => ua_nc hc
  have eM : ∀ (c : Nat) (i : Int), ¬ c = 6 → ua M 6 x v c i = M c i := fun c i hc => ua_nc hc
  unfold JN
  simp only [eF 51 _ (by decide), eM 51 _ (by decide)]
  refine ⟨h1, h2, h3, fun y a b => ?_, h5, fun y a b => ?_⟩
  · obtain ⟨o1, o2, o3, o4, o5, o6, o7⟩ := h4 y a b
    unfold NmOK
    simp only [eF 2 _ (by decide), eF 3 _ (by decide), eF 4 _ (by decide), eF 6 _ (by decide), eF 7 _ (by decide)]
    refine ⟨o1, o2, o3, ?_, o5, o6, fun i p q => ?_⟩
    · rw [ua_at]; split
      · exact hv
      · exact o4
    · rw [ua_nc (by omega)]; exact o7 i p q
  · obtain ⟨r1, r2, r3, r4, r5, r6, r7⟩ := h6 y a b
    unfold RN
    have e : ua F 5 ((P x.toNat : Nat) : Int) v (20 + P y.toNat) = F (20 + P y.toNat) := funext (fun i => ua_nc (by omega))
    simp only [e, eF 2 _ (by decide), eF 3 _ (by decide), eF 4 _ (by decide), eF 6 _ (by decide), eF 7 _ (by decide), eM 2 _ (by decide), eM 3 _ (by decide), eM 4 _ (by decide), eM 5 _ (by decide)]
    refine ⟨r1, r2, r3, ?_, r5, r6, fun k p q => ?_⟩
    · by_cases z : y = x
      · subst z; rw [ua_eq, ua_eq]
      · rw [ua_ni z, ua_ni (fun w => z (by have := h3 y.toNat x.toNat (by omega) (by omega) (by omega); omega))]; exact r4
    · exact r7 k p q
theorem JN_3 {F M : Nat → Int → Int} {P : Nat → Nat} {x v : Int} (h : JN F M P) (hx : 0 ≤ x ∧ x < F 51 0) (hv : 0 ≤ v ∧ v ≤ 3) : JN (ua F 3 ((P x.toNat : Nat) : Int) v) (ua M 4 x v) P := by
  obtain ⟨h1, h2, h3, h4, h5, h6⟩ := h
  have eF : ∀ (c : Nat) (i : Int), ¬ c = 3 → ua F 3 ((P x.toNat : Nat) : Int) v c i = F c i := fun c i hc => ua_nc hc
  have eM : ∀ (c : Nat) (i : Int), ¬ c = 4 → ua M 4 x v c i = M c i := fun c i hc => ua_nc hc
  unfold JN
  simp only [eF 51 _ (by decide), eM 51 _ (by decide)]
  refine ⟨h1, h2, h3, fun y a b => ?_, h5, fun y a b => ?_⟩
  · obtain ⟨o1, o2, o3, o4, o5, o6, o7⟩ := h4 y a b
    unfold NmOK
    simp only [eF 2 _ (by decide), eF 4 _ (by decide), eF 5 _ (by decide), eF 6 _ (by decide), eF 7 _ (by decide)]
    refine ⟨o1, ?_, o3, o4, o5, o6, fun i p q => ?_⟩
    · rw [ua_at]; split
      · exact hv
      · exact o2
    · rw [ua_nc (by omega)]; exact o7 i p q
  · obtain ⟨r1, r2, r3, r4, r5, r6, r7⟩ := h6 y a b
    unfold RN
    have e : ua F 3 ((P x.toNat : Nat) : Int) v (20 + P y.toNat) = F (20 + P y.toNat) := funext (fun i => ua_nc (by omega))
    simp only [e, eF 2 _ (by decide), eF 4 _ (by decide), eF 5 _ (by decide), eF 6 _ (by decide), eF 7 _ (by decide), eM 2 _ (by decide), eM 3 _ (by decide), eM 5 _ (by decide), eM 6 _ (by decide)]
    refine ⟨r1, ?_, r3, r4, r5, r6, fun k p q => ?_⟩
    · by_cases z : y = x
      · subst z; rw [ua_eq, ua_eq]
      · rw [ua_ni z, ua_ni (fun w => z (by have := h3 y.toNat x.toNat (by omega) (by omega) (by omega); omega))]; exact r2
    · exact r7 k p q
theorem JN_drop {F M U : Nat → Int → Int} {P : Nat → Nat} {x N : Int} (h : JN F M P) (hx : 0 ≤ x ∧ x < N) (hN : N = F 51 0) (h1N : ¬ N = 1) (hd : drI M U x (N - 1)) (h51 : U 51 0 = N - 1) : JN (us F 51 (N - 1)) U (rotP P x.toNat (N - 1).toNat) := by
  obtain ⟨h1, h2, h3, h4, h5, h6⟩ := h
  have hP : ∀ i : Nat, (i : Int) < N - 1 → rotP P x.toNat (N - 1).toNat i = P (if (i : Int) < x then i else i + 1) := fun i hi => by
    unfold rotP
    rw [if_neg (by omega)]
    by_cases q : (i : Int) < x
    · rw [if_pos q, if_neg (by omega)]
    · rw [if_neg q, if_pos (by omega)]
  have hR : ∀ i : Nat, i < 8 → ∃ k : Nat, k < 8 ∧ rotP P x.toNat (N - 1).toNat i = P k ∧ ((i : Int) = N - 1 → (k : Int) = x) ∧ (¬ (i : Int) = N - 1 → (k : Int) = if x ≤ i ∧ (i : Int) < N - 1 then (i : Int) + 1 else i) := fun i hi => by
    unfold rotP
    by_cases q : i = (N - 1).toNat
    · rw [if_pos q]; exact ⟨x.toNat, by omega, rfl, fun _ => by omega, fun z => absurd (by omega) z⟩
    · rw [if_neg q]
      by_cases w : x.toNat ≤ i ∧ i < (N - 1).toNat
      · rw [if_pos w]; exact ⟨i + 1, by omega, rfl, fun z => absurd z (by omega), fun _ => by rw [if_pos (by omega)]; omega⟩
      · rw [if_neg w]; exact ⟨i, hi, rfl, fun z => absurd z (by omega), fun _ => by rw [if_neg (by omega)]⟩
  unfold JN
  rw [us_eq, h51]
  refine ⟨by omega, fun i hi => ?_, fun i j hi hj e => ?_, fun y a b => ?_, rfl, fun y a b => ?_⟩
  · obtain ⟨k, k1, k2, -⟩ := hR i hi; rw [k2]; exact h2 k k1
  · obtain ⟨k, k1, k2, k3, k4⟩ := hR i hi
    obtain ⟨v, v1, v2, v3, v4⟩ := hR j hj
    rw [k2, v2] at e
    have ev := h3 k v k1 v1 e
    by_cases zi : (i : Int) = N - 1
    · by_cases zj : (j : Int) = N - 1
      · omega
      · have a1 := k3 zi; have a2 := v4 zj
        by_cases w : x ≤ j ∧ (j : Int) < N - 1
        · rw [if_pos w] at a2; omega
        · rw [if_neg w] at a2; omega
    · by_cases zj : (j : Int) = N - 1
      · have a1 := v3 zj; have a2 := k4 zi
        by_cases w : x ≤ i ∧ (i : Int) < N - 1
        · rw [if_pos w] at a2; omega
        · rw [if_neg w] at a2; omega
      · have a1 := k4 zi; have a2 := v4 zj
        by_cases w : x ≤ i ∧ (i : Int) < N - 1
        · rw [if_pos w] at a1
          by_cases w2 : x ≤ j ∧ (j : Int) < N - 1
          · rw [if_pos w2] at a2; omega
          · rw [if_neg w2] at a2; omega
        · rw [if_neg w] at a1
          by_cases w2 : x ≤ j ∧ (j : Int) < N - 1
          · rw [if_pos w2] at a2; omega
          · rw [if_neg w2] at a2; omega
  · have e := hP y.toNat (by omega)
    rw [e]
    refine NmOK_fr (fun c i hc => us_nc (by omega)) (h2 _ (by split <;> omega)) ?_
    have q := h4 (if y < x then y else y + 1) (by split <;> omega) (by split <;> omega)
    have e2 : (if y < x then y else y + 1).toNat = (if ((y.toNat : Nat) : Int) < x then y.toNat else y.toNat + 1) := by
      by_cases z : y < x
      · rw [if_pos z, if_pos (by omega)]
      · rw [if_neg z, if_neg (by omega)]; omega
    rw [e2] at q; exact q
  · have e := hP y.toNat (by omega)
    rw [e]
    have q := h6 (if y < x then y else y + 1) (by split <;> omega) (by split <;> omega)
    have e2 : (if y < x then y else y + 1).toNat = (if ((y.toNat : Nat) : Int) < x then y.toNat else y.toNat + 1) := by
      by_cases z : y < x
      · rw [if_pos z, if_pos (by omega)]
      · rw [if_neg z, if_neg (by omega)]; omega
    rw [e2] at q
    obtain ⟨r1, r2, r3, r4, r5, r6, r7⟩ := q
    obtain ⟨d1, d2, d3, d4, d5⟩ := hd.1 y a b
    have eu : ∀ c : Nat, ¬ c = 51 → us F 51 (N - 1) c = F c := fun c hc => funext (fun i => us_nc hc)
    unfold RN
    rw [eu 2 (by decide), eu 3 (by decide), eu 4 (by decide), eu 5 (by decide), eu 6 (by decide), eu 7 (by decide), eu (20 + _) (by have := h2 (if ((y.toNat : Nat) : Int) < x then y.toNat else y.toNat + 1) (by split <;> omega); omega), d1, d2, d3, d4]
    exact ⟨r1, r2, r3, r4, r5, r6, fun k p q => ⟨(d5 k p (by rw [r1]; exact q)).trans (r7 k p q).1, (r7 k p q).2⟩⟩
theorem JW_keep {F M U V : Nat → Int → Int} (h : JW F M) (hl : F 56 0 < 2) (hc : cpyP F U (2 + (F 56 0).toNat) 0) (hm : kpP M V) : JW (us U 56 (F 56 0 + 1)) (us V 54 (M 54 0 + 1)) := by
  obtain ⟨h1, h2, h3, h4, h5⟩ := h
  obtain ⟨c1, c2, c3⟩ := hc
  obtain ⟨m1, m2, m3⟩ := hm
  have h10 := h1 0 (by decide)
  have e8 : ∀ w : Nat, ¬ w = 2 + (F 56 0).toNat → us U 56 (F 56 0 + 1) 8 (w : Int) = F 8 (w : Int) := fun w hw => (us_nc (by decide)).trans (c3 8 _ (by omega) (by omega))
  have e16 : ∀ (w : Nat) (i : Int), w < 4 → ¬ w = 2 + (F 56 0).toNat → us U 56 (F 56 0 + 1) (16 + w) i = F (16 + w) i := fun w i hw4 hw => (us_nc (by omega)).trans (c3 _ _ (by omega) (by omega))
  have k8 : us U 56 (F 56 0 + 1) 8 ((2 + (F 56 0).toNat : Nat) : Int) = F 8 0 := (us_nc (by decide)).trans c1
  have k16 : ∀ i : Int, 0 ≤ i → i < F 8 0 → us U 56 (F 56 0 + 1) (16 + (2 + (F 56 0).toNat)) i = F (16 + 0) i := fun i a b => (us_nc (by omega)).trans (c2 i a b)
  refine ⟨fun w hw => ?_, by rw [us_eq]; omega, ⟨?_, fun i p q => ?_⟩, ?_, fun q hq => ?_⟩
  · by_cases z : w = 2 + (F 56 0).toNat
    · subst z
      rw [k8]
      refine ⟨h10.1, fun i p q => ?_⟩
      rw [k16 i p q]; exact h10.2 i p q
    · rw [e8 w z]
      refine ⟨(h1 w hw).1, fun i p q => ?_⟩
      rw [e16 w i hw z]; exact (h1 w hw).2 i p q
  · rw [us_nc (by decide), m3 53 _ (by omega) (by omega), h3.1]; exact (e8 0 (by omega)).symm
  · rw [us_nc (by decide), m3 12 _ (by omega) (by omega), e16 0 i (by decide) (by omega)]
    exact h3.2 i p (by rw [show us U 56 (F 56 0 + 1) 8 0 = F 8 0 from e8 0 (by omega)] at q; exact q)
  · rw [us_eq, us_eq, h4]
  · rw [us_eq] at hq
    by_cases z : q = (F 56 0).toNat
    · subst z
      have e : (((F 56 0).toNat : Nat) : Int) = F 56 0 := by omega
      have hm1 : V 14 (F 56 0) = M 53 0 := by rw [← h4]; exact m1
      have hm2 : ∀ i : Int, 0 ≤ i → i < M 53 0 → V 13 (6 * F 56 0 + i) = M 12 i := by rw [← h4]; exact m2
      rw [us_nc (by decide), k8, e, hm1, h3.1]
      refine ⟨rfl, fun i p r => ?_⟩
      rw [us_nc (by decide), hm2 i p (by rw [h3.1]; exact r), k16 i p r]
      exact h3.2 i p r
    · rw [us_nc (by decide), e8 _ (by omega), m3 14 _ (by omega) (by omega)]
      refine ⟨(h5 q (by omega)).1, fun i p r => ?_⟩
      have w1q := (h1 (2 + q) (by omega)).1
      rw [us_nc (by decide), e16 _ i (by omega) (by omega), m3 13 _ (by omega) (by omega)]
      exact (h5 q (by omega)).2 i p r
theorem JW_back {F M U V : Nat → Int → Int} (h : JW F M) (hl : 0 < F 56 0) (hc : cpyP (us F 56 (F 56 0 - 1)) U 0 (2 + (F 56 0 - 1).toNat)) (hm : bkP M V) : JW U V := by
  obtain ⟨h1, h2, h3, h4, h5⟩ := h
  obtain ⟨c1, c2, c3⟩ := hc
  obtain ⟨m0, m1, m2, m3⟩ := hm
  have hq := h5 (F 56 0 - 1).toNat (by omega)
  have e : (((F 56 0 - 1).toNat : Nat) : Int) = F 56 0 - 1 := by omega
  rw [e] at hq
  have h12 := h1 (2 + (F 56 0 - 1).toNat) (by omega)
  have k8 : U 8 ((0 : Nat) : Int) = F 8 ((2 + (F 56 0 - 1).toNat : Nat) : Int) := c1.trans (us_nc (by decide))
  have k16 : ∀ i : Int, 0 ≤ i → i < F 8 ((2 + (F 56 0 - 1).toNat : Nat) : Int) → U (16 + 0) i = F (16 + (2 + (F 56 0 - 1).toNat)) i := fun i a b => (c2 i a (by rw [us_nc (by decide)]; exact b)).trans (us_nc (by omega))
  have e8 : ∀ w : Nat, ¬ w = 0 → U 8 (w : Int) = F 8 (w : Int) := fun w hw => (c3 8 _ (by omega) (by omega)).trans (us_nc (by decide))
  have e16 : ∀ (w : Nat) (i : Int), w < 4 → ¬ w = 0 → U (16 + w) i = F (16 + w) i := fun w i hw4 hw => (c3 _ _ (by omega) (by omega)).trans (us_nc (by omega))
  have k56 : U 56 0 = F 56 0 - 1 := (c3 56 _ (by decide) (by omega)).trans us_eq
  refine ⟨fun w hw => ?_, by rw [k56]; omega, ⟨?_, fun i p q => ?_⟩, ?_, fun q hq2 => ?_⟩
  · by_cases z : w = 0
    · subst z
      rw [k8]
      refine ⟨h12.1, fun i p q => ?_⟩
      rw [k16 i p q]; exact h12.2 i p q
    · rw [e8 w z]
      refine ⟨(h1 w hw).1, fun i p q => ?_⟩
      rw [e16 w i hw z]; exact (h1 w hw).2 i p q
  · rw [m1, h4, hq.1]; exact k8.symm
  · have q2 : i < F 8 ((2 + (F 56 0 - 1).toNat : Nat) : Int) := by rw [← k8]; exact q
    rw [k16 i p q2, m2 i p (by rw [h4, hq.1]; exact q2), h4]
    exact hq.2 i p q2
  · rw [m0, h4, k56]
  · rw [k56] at hq2
    rw [m3 14 _ (by decide) (by decide) (by decide), e8 _ (by omega)]
    refine ⟨(h5 q (by omega)).1, fun i p r => ?_⟩
    rw [m3 13 _ (by decide) (by decide) (by decide), e16 _ i (by omega) (by omega)]
    exact (h5 q (by omega)).2 i p r
theorem JW_word {F M : Nat → Int → Int} (h : JW F M) : cdv (F (16 + 0)) (F 8 0).toNat = cdv (M 12) (M 53 0).toNat := by
  obtain ⟨h1, h2, h3, h4, h5⟩ := h
  have key : ∀ n : Nat, (n : Int) ≤ F 8 0 → cdv (F (16 + 0)) n = cdv (M 12) n := by
    intro n
    induction n with
    | zero => intro _; rfl
    | succ n ih => intro hn; rw [cdv, cdv, ih (by omega), h3.2 n (by omega) (by omega)]
  have h10 := (h1 0 (by decide)).1
  rw [h3.1]
  exact key _ (by have h11 : F 8 ((0 : Nat) : Int) = F 8 0 := rfl; omega)

theorem op_write {S : St} {M : St} {n r r2 : Int} {S1 M1 : St} {x : Int} (h : JJ S M.1 n) (hn : n < 600) (hc : po_X9_write S x r S1) (hm : po_X10_write M x r2 M1) : r = r2 ∧ JJ S1 M1.1 (n + 1) := by
  obtain ⟨hT, hN, hS, hW, hC, hH, hA, hK, hX⟩ := id h
  have e50 := hT.2.2.1
  rcases hc with ⟨a1, a2, a3⟩ | ⟨a1, a2, a3, a4⟩ | ⟨a1, a2, a3, a4⟩
  · rcases hm with ⟨b1, b2, b3⟩ | ⟨b1, b2, b3, b4⟩ | ⟨b1, b2, b3, b4⟩
    · rw [a3, b3]; exact ⟨by omega, JJ_n h hn⟩
    · exact absurd b1 a1
    · exact absurd b1 a1
  · rcases hm with ⟨b1, b2, b3⟩ | ⟨b1, b2, b3, b4⟩ | ⟨b1, b2, b3, b4⟩
    · exact absurd a1 b1
    · rw [a4, b4]; exact ⟨by omega, JJ_n h hn⟩
    · exact absurd b2 (by omega)
  · rcases hm with ⟨b1, b2, b3⟩ | ⟨b1, b2, b3, b4⟩ | ⟨b1, b2, b3, b4⟩
    · exact absurd a1 b1
    · exact absurd b2 (by omega)
    · rw [a4, b4]
      exact ⟨by omega, JJ_of (JT_write hT a1 a2) (JN_fr (fun c i hc => (us_nc (by omega)).trans (ua_nc (by omega))) (fun c i hc => (us_nc (by omega)).trans (ua_nc (by omega))) hN) (JS_fr (fun c i hc => (us_nc (by omega)).trans (ua_nc (by omega))) (fun c i hc => (us_nc (by omega)).trans (ua_nc (by omega))) hS) (JW_fr (fun c i hc => (us_nc (by omega)).trans (ua_nc (by omega))) (fun c i hc => (us_nc (by omega)).trans (ua_nc (by omega))) hW) (JC_fr hn (fun c i hc => (us_nc (by omega)).trans (ua_nc (by omega))) (fun c i hc => (us_nc (by omega)).trans (ua_nc (by omega))) hC) (JH_fr (fun c i hc => (us_nc (by omega)).trans (ua_nc (by omega))) (fun c i hc => (us_nc (by omega)).trans (ua_nc (by omega))) hH) (JA_fr (fun c i hc => (us_nc (by omega)).trans (ua_nc (by omega))) (fun c i hc => (us_nc (by omega)).trans (ua_nc (by omega))) hA) (JK_fr (fun c i hc => (us_nc (by omega)).trans (ua_nc (by omega))) (fun c i hc => (us_nc (by omega)).trans (ua_nc (by omega))) hK) (nxi_fr (fun c i hc => (us_nc (by omega)).trans (ua_nc (by omega))) hX)⟩
theorem op_wipe {S : St} {M : St} {n r r2 : Int} {S1 M1 : St}  (h : JJ S M.1 n) (hn : n < 600) (hc : po_X9_wipe S  r S1) (hm : po_X10_wipe M  r2 M1) : r = r2 ∧ JJ S1 M1.1 (n + 1) := by
  obtain ⟨hT, hN, hS, hW, hC, hH, hA, hK, hX⟩ := id h
  rw [hc.2, hm.2]
  exact ⟨by rw [hc.1, hm.1, hT.2.2.1], JJ_of (JT_wipe) (JN_fr (fun c i hc => us_nc (by omega)) (fun c i hc => us_nc (by omega)) hN) (JS_fr (fun c i hc => us_nc (by omega)) (fun c i hc => us_nc (by omega)) hS) (JW_fr (fun c i hc => us_nc (by omega)) (fun c i hc => us_nc (by omega)) hW) (JC_fr hn (fun c i hc => us_nc (by omega)) (fun c i hc => us_nc (by omega)) hC) (JH_fr (fun c i hc => us_nc (by omega)) (fun c i hc => us_nc (by omega)) hH) (JA_fr (fun c i hc => us_nc (by omega)) (fun c i hc => us_nc (by omega)) hA) (JK_fr (fun c i hc => us_nc (by omega)) (fun c i hc => us_nc (by omega)) hK) (nxi_fr (fun c i hc => us_nc (by omega)) hX)⟩
theorem op_fault {S : St} {M : St} {n r r2 : Int} {S1 M1 : St} (h : JJ S M.1 n) (hn : n < 600) (hc : po_X9_fault S r S1) (hm : po_X10_fault M (M.1 1) (M.1 50 0) r2 M1) : r = r2 ∧ JJ S1 M1.1 (n + 1) := by
  obtain ⟨hT, hN, hS, hW, hC, hH, hA, hK, hX⟩ := id h
  obtain ⟨a1, a2⟩ := hc
  obtain ⟨b1, b2, b3⟩ := hm
  rw [a2]
  refine ⟨by rw [a1, b1, ltx_txt hT, hT.2.2.1], JJ_of (JT_fr (fun c i hc => rfl) (fun c i hc => b3 c i (by omega) (by omega)) hT) (JN_fr (fun c i hc => rfl) (fun c i hc => b3 c i (by omega) (by omega)) hN) (JS_fr (fun c i hc => rfl) (fun c i hc => b3 c i (by omega) (by omega)) hS) (JW_fr (fun c i hc => rfl) (fun c i hc => b3 c i (by omega) (by omega)) hW) (JC_fr hn (fun c i hc => rfl) (fun c i hc => b3 c i (by omega) (by omega)) hC) (JH_fr (fun c i hc => rfl) (fun c i hc => b3 c i (by omega) (by omega)) hH) (JA_fr (fun c i hc => rfl) (fun c i hc => b3 c i (by omega) (by omega)) hA) (JK_fr (fun c i hc => rfl) (fun c i hc => b3 c i (by omega) (by omega)) hK) (hX)⟩
theorem op_name {S : St} {M : St} {n r r2 : Int} {S1 M1 : St} {x : Int} {u : Int} (h : JJ S M.1 n) (hn : n < 600) (hc : po_X9_name S x u r S1) (hm : po_X10_name M x u r2 M1) : r = r2 ∧ JJ S1 M1.1 (n + 1) := by
  obtain ⟨hT, hN, hS, hW, hC, hH, hA, hK, hX⟩ := id h
  have e51 := hN.2.2.2.2.1
  rcases hc with ⟨a1, a2, a3⟩ | ⟨a1, a2, a3⟩
  · rcases hm with ⟨b1, b2, b3⟩ | ⟨b1, b2, b3⟩
    · rw [a3, b3]; exact ⟨by omega, JJ_n h hn⟩
    · exact absurd b2 (by omega)
  · rcases hm with ⟨b1, b2, b3⟩ | ⟨b1, b2, b3⟩
    · exact absurd a2 (by omega)
    · rw [a3, b3]
      refine ⟨?_, JJ_n h hn⟩
      obtain ⟨r1, r2_, r3, r4, r5, r6, r7⟩ := hN.2.2.2.2.2 x a1.1 a1.2
      have e7 : bgv (fun z_ => M.1 2 (12 * x + z_)) (M.1 3 x).toNat = bgv (S.1 (20 + S.2 x.toNat)) (S.1 2 ((S.2 x.toNat : Nat) : Int)).toNat := by
        rw [r1]
        exact bgv_congr _ (fun k p q => (r7 k p (by omega)).1)
      rcases a2 with ⟨p, q⟩ | ⟨p, q⟩ | ⟨p, q⟩ | ⟨p, q⟩ | ⟨p, q⟩
      · rcases b2 with ⟨v, w⟩ | ⟨v, w⟩ | ⟨v, w⟩ | ⟨v, w⟩ | ⟨v, w⟩ <;> first | exact absurd v (by omega) | (rw [q, w, r2_])
      · rcases b2 with ⟨v, w⟩ | ⟨v, w⟩ | ⟨v, w⟩ | ⟨v, w⟩ | ⟨v, w⟩ <;> first | exact absurd v (by omega) | (rw [q, w, r1])
      · rcases b2 with ⟨v, w⟩ | ⟨v, w⟩ | ⟨v, w⟩ | ⟨v, w⟩ | ⟨v, w⟩ <;> first | exact absurd v (by omega) | (rw [q, w, r3])
      · rcases b2 with ⟨v, w⟩ | ⟨v, w⟩ | ⟨v, w⟩ | ⟨v, w⟩ | ⟨v, w⟩ <;> first | exact absurd v (by omega) | (rw [q, w, r4])
      · rcases b2 with ⟨v, w⟩ | ⟨v, w⟩ | ⟨v, w⟩ | ⟨v, w⟩ | ⟨v, w⟩ <;> first | exact absurd v (by omega) | (rw [q, w, e7, r5])
theorem op_sign {S : St} {M : St} {n r r2 : Int} {S1 M1 : St} {x : Int} {u : Int} (h : JJ S M.1 n) (hn : n < 600) (hc : po_X9_sign S x u r S1) (hm : po_X10_sign M x u r2 M1) : r = r2 ∧ JJ S1 M1.1 (n + 1) := by
  obtain ⟨hT, hN, hS, hW, hC, hH, hA, hK, hX⟩ := id h
  have e51 := hN.2.2.2.2.1
  rcases hc with ⟨a1, a2, a3⟩ | ⟨a1, a2, a3, a4⟩
  · rcases hm with ⟨b1, b2, b3⟩ | ⟨b1, b2, b3, b4⟩
    · rw [a3, b3]; exact ⟨by omega, JJ_n h hn⟩
    · exact absurd b2 (by omega)
  · rcases hm with ⟨b1, b2, b3⟩ | ⟨b1, b2, b3, b4⟩
    · exact absurd a2 (by omega)
    · rw [a4, b4]
      refine ⟨?_, JJ_n h hn⟩
      obtain ⟨r1, r2_, r3, r4, r5, r6, r7⟩ := hN.2.2.2.2.2 x a1.1 a1.2
      rw [a3, b3, r1]
      by_cases q : u < S.1 2 ((S.2 x.toNat : Nat) : Int)
      · rw [if_pos q, if_pos q, (r7 u a2 q).1]
      · rw [if_neg q, if_neg q]
theorem op_type {S : St} {M : St} {n r r2 : Int} {S1 M1 : St} {x : Int} (h : JJ S M.1 n) (hn : n < 600) (hc : po_X9_type S x r S1) (hm : po_X10_type M x r2 M1) : r = r2 ∧ JJ S1 M1.1 (n + 1) := by
  obtain ⟨hT, hN, hS, hW, hC, hH, hA, hK, hX⟩ := id h
  have e53 := hW.2.2.1.1
  have w0 := (hW.1 0 (by decide)).1
  have w00 : S.1 8 ((0 : Nat) : Int) = S.1 8 0 := rfl
  rcases hc with ⟨a1, a2, a3⟩ | ⟨a1, a2, a3, a4⟩ | ⟨a1, a2, a3, a4⟩
  · rcases hm with ⟨b1, b2, b3⟩ | ⟨b1, b2, b3, b4⟩ | ⟨b1, b2, b3, b4⟩
    · rw [a3, b3]; exact ⟨by omega, JJ_n h hn⟩
    · exact absurd b1 a1
    · exact absurd b1 a1
  · rcases hm with ⟨b1, b2, b3⟩ | ⟨b1, b2, b3, b4⟩ | ⟨b1, b2, b3, b4⟩
    · exact absurd a1 b1
    · rw [a4, b4]; exact ⟨by omega, JJ_n h hn⟩
    · exact absurd b2 (by omega)
  · rcases hm with ⟨b1, b2, b3⟩ | ⟨b1, b2, b3, b4⟩ | ⟨b1, b2, b3, b4⟩
    · exact absurd a1 b1
    · exact absurd b2 (by omega)
    · rw [a4, b4]
      exact ⟨by omega, JJ_of (JT_fr (fun c i hc => (ua_nc (by omega)).trans (ua_nc (by omega))) (fun c i hc => (us_nc (by omega)).trans (ua_nc (by omega))) hT) (JN_fr (fun c i hc => (ua_nc (by omega)).trans (ua_nc (by omega))) (fun c i hc => (us_nc (by omega)).trans (ua_nc (by omega))) hN) (JS_fr (fun c i hc => (ua_nc (by omega)).trans (ua_nc (by omega))) (fun c i hc => (us_nc (by omega)).trans (ua_nc (by omega))) hS) (JW_type hW a1 rfl rfl a2) (JC_fr hn (fun c i hc => (ua_nc (by omega)).trans (ua_nc (by omega))) (fun c i hc => (us_nc (by omega)).trans (ua_nc (by omega))) hC) (JH_fr (fun c i hc => (ua_nc (by omega)).trans (ua_nc (by omega))) (fun c i hc => (us_nc (by omega)).trans (ua_nc (by omega))) hH) (JA_fr (fun c i hc => (ua_nc (by omega)).trans (ua_nc (by omega))) (fun c i hc => (us_nc (by omega)).trans (ua_nc (by omega))) hA) (JK_fr (fun c i hc => (ua_nc (by omega)).trans (ua_nc (by omega))) (fun c i hc => (us_nc (by omega)).trans (ua_nc (by omega))) hK) (nxi_fr (fun c i hc => (ua_nc (by omega)).trans (ua_nc (by omega))) hX)⟩
theorem op_untype {S : St} {M : St} {n r r2 : Int} {S1 M1 : St}  (h : JJ S M.1 n) (hn : n < 600) (hc : po_X9_untype S  r S1) (hm : po_X10_untype M  r2 M1) : r = r2 ∧ JJ S1 M1.1 (n + 1) := by
  obtain ⟨hT, hN, hS, hW, hC, hH, hA, hK, hX⟩ := id h
  have e53 := hW.2.2.1.1
  have w0 := (hW.1 0 (by decide)).1
  have w00 : S.1 8 ((0 : Nat) : Int) = S.1 8 0 := rfl
  rcases hc with ⟨a1, a2, a3⟩ | ⟨a1, a2, a3⟩
  · rcases hm with ⟨b1, b2, b3⟩ | ⟨b1, b2, b3⟩
    · rw [a3, b3]; exact ⟨by omega, JJ_n h hn⟩
    · exact absurd b1 (by omega)
  · rcases hm with ⟨b1, b2, b3⟩ | ⟨b1, b2, b3⟩
    · exact absurd b1 (by omega)
    · rw [a3, b3]
      refine ⟨?_, JJ_of (JT_fr (fun c i hc => ua_nc (by omega)) (fun c i hc => us_nc (by omega)) hT) (JN_fr (fun c i hc => ua_nc (by omega)) (fun c i hc => us_nc (by omega)) hN) (JS_fr (fun c i hc => ua_nc (by omega)) (fun c i hc => us_nc (by omega)) hS) (JW_untype hW a1) (JC_fr hn (fun c i hc => ua_nc (by omega)) (fun c i hc => us_nc (by omega)) hC) (JH_fr (fun c i hc => ua_nc (by omega)) (fun c i hc => us_nc (by omega)) hH) (JA_fr (fun c i hc => ua_nc (by omega)) (fun c i hc => us_nc (by omega)) hA) (JK_fr (fun c i hc => ua_nc (by omega)) (fun c i hc => us_nc (by omega)) hK) (nxi_fr (fun c i hc => ua_nc (by omega)) hX)⟩
      rw [a2, b2, e53]
      exact (hW.2.2.1.2 _ (by omega) (by omega)).symm
theorem op_roll {S : St} {M : St} {n r r2 : Int} {S1 M1 : St}  (h : JJ S M.1 n) (hn : n < 600) (hc : po_X9_roll S  r S1) (hm : po_X10_roll M  r2 M1) : r = r2 ∧ JJ S1 M1.1 (n + 1) := by
  obtain ⟨hT, hN, hS, hW, hC, hH, hA, hK, hX⟩ := id h
  have e53 := hW.2.2.1.1
  have w0 := (hW.1 0 (by decide)).1
  have w00 : S.1 8 ((0 : Nat) : Int) = S.1 8 0 := rfl
  have e60 := hC.2.2.2.2
  rcases hc with ⟨a1, a2, a3⟩ | ⟨a1, a2, a3⟩
  · rcases hm with ⟨b1, b2, b3⟩ | ⟨b1, b2, b3⟩
    · rw [a3, b3]; exact ⟨by omega, JJ_n h hn⟩
    · exact absurd b1 (by omega)
  · rcases hm with ⟨b1, b2, b3⟩ | ⟨b1, b2, b3⟩
    · exact absurd b1 (by omega)
    · rw [a3, b3]
      rw [e60] at b2
      rw [e60]
      have hC2 : JC (ua (ua (us S.1 59 ((7919 * S.1 59 0 + 12345) % 65521)) 16 (S.1 8 0) (97 + ((7919 * S.1 59 0 + 12345) % 65521) % 26)) 8 0 (S.1 8 0 + 1)) (us (ua (us M.1 60 ((7919 * S.1 59 0 + 12345) % 65521)) 12 (M.1 53 0) (97 + ((7919 * S.1 59 0 + 12345) % 65521) % 26)) 53 (M.1 53 0 + 1)) (n + 1) := by
        unfold JC at hC ⊢
        rw [ua_nc (by decide), ua_nc (by decide), us_nc (by decide), ua_nc (by decide), ua_nc (by decide), us_nc (by decide), ua_nc (by decide), ua_nc (by decide), us_nc (by decide), ua_nc (by decide), ua_nc (by decide), us_eq, us_nc (by decide), ua_nc (by decide), us_nc (by decide), us_nc (by decide), ua_nc (by decide), us_nc (by decide), us_nc (by decide), ua_nc (by decide), us_nc (by decide), us_nc (by decide), ua_nc (by decide), us_eq]
        omega
      exact ⟨by rw [a2, b2], JJ_of (JT_fr (fun c i hc => ((ua_nc (by omega)).trans (ua_nc (by omega))).trans (us_nc (by omega))) (fun c i hc => ((us_nc (by omega)).trans (ua_nc (by omega))).trans (us_nc (by omega))) hT) (JN_fr (fun c i hc => ((ua_nc (by omega)).trans (ua_nc (by omega))).trans (us_nc (by omega))) (fun c i hc => ((us_nc (by omega)).trans (ua_nc (by omega))).trans (us_nc (by omega))) hN) (JS_fr (fun c i hc => ((ua_nc (by omega)).trans (ua_nc (by omega))).trans (us_nc (by omega))) (fun c i hc => ((us_nc (by omega)).trans (ua_nc (by omega))).trans (us_nc (by omega))) hS) (JW_type (JW_fr (F2 := us S.1 59 _) (M2 := us M.1 60 _) (fun c i hc => us_nc (by omega)) (fun c i hc => us_nc (by omega)) hW) (by unfold ltr; omega) (us_nc (by decide)).symm (us_nc (by decide)).symm a1) (hC2) (JH_fr (fun c i hc => ((ua_nc (by omega)).trans (ua_nc (by omega))).trans (us_nc (by omega))) (fun c i hc => ((us_nc (by omega)).trans (ua_nc (by omega))).trans (us_nc (by omega))) hH) (JA_fr (fun c i hc => ((ua_nc (by omega)).trans (ua_nc (by omega))).trans (us_nc (by omega))) (fun c i hc => ((us_nc (by omega)).trans (ua_nc (by omega))).trans (us_nc (by omega))) hA) (JK_fr (fun c i hc => ((ua_nc (by omega)).trans (ua_nc (by omega))).trans (us_nc (by omega))) (fun c i hc => ((us_nc (by omega)).trans (ua_nc (by omega))).trans (us_nc (by omega))) hK) (nxi_fr (fun c i hc => ((ua_nc (by omega)).trans (ua_nc (by omega))).trans (us_nc (by omega))) hX)⟩
theorem op_word {S : St} {M : St} {n r r2 : Int} {S1 M1 : St} {x : Int} (h : JJ S M.1 n) (hn : n < 600) (hc : po_X9_word S x r S1) (hm : po_X10_word M x r2 M1) : r = r2 ∧ JJ S1 M1.1 (n + 1) := by
  obtain ⟨hT, hN, hS, hW, hC, hH, hA, hK, hX⟩ := id h
  have e53 := hW.2.2.1.1
  have w0 := (hW.1 0 (by decide)).1
  have w00 : S.1 8 ((0 : Nat) : Int) = S.1 8 0 := rfl
  rw [hc.2, hm.2]
  refine ⟨?_, JJ_n h hn⟩
  rw [hc.1, hm.1, e53]
  split
  · rfl
  · split
    · rfl
    · split
      · exact (hW.2.2.1.2 x (by omega) (by assumption)).symm
      · rfl
theorem op_pick {S : St} {M : St} {n r r2 : Int} {S1 M1 : St} {x : Int} (h : JJ S M.1 n) (hn : n < 600) (hc : po_X9_pick S x r S1) (hm : po_X10_pick M x r2 M1) : r = r2 ∧ JJ S1 M1.1 (n + 1) := by
  obtain ⟨hT, hN, hS, hW, hC, hH, hA, hK, hX⟩ := id h
  have e51 := hN.2.2.2.2.1
  have e56 := hC.2.2.1
  rcases hc with ⟨a1, a2, a3⟩ | ⟨a1, a2, a3⟩
  · rcases hm with ⟨b1, b2, b3⟩ | ⟨b1, b2, b3⟩
    · rw [a3, b3]; exact ⟨by omega, JJ_n h hn⟩
    · exact absurd b1 (by omega)
  · rcases hm with ⟨b1, b2, b3⟩ | ⟨b1, b2, b3⟩
    · exact absurd a1 (by omega)
    · rw [a3, b3, e56]
      have hC2 : JC (ua (us S.1 57 (S.1 57 0 + 1)) 5 ((S.2 x.toNat : Nat) : Int) (S.1 57 0 + 1)) (ua (us M.1 56 (S.1 57 0 + 1)) 6 x (S.1 57 0 + 1)) (n + 1) := by
        unfold JC at hC ⊢
        rw [ua_nc (by decide), us_nc (by decide), ua_nc (by decide), us_eq, ua_nc (by decide), us_nc (by decide), ua_nc (by decide), us_nc (by decide), ua_nc (by decide), us_nc (by decide), ua_nc (by decide), us_eq, ua_nc (by decide), us_nc (by decide), ua_nc (by decide), us_nc (by decide)]
        omega
      exact ⟨by omega, JJ_of (JT_fr (fun c i hc => (ua_nc (by omega)).trans (us_nc (by omega))) (fun c i hc => (ua_nc (by omega)).trans (us_nc (by omega))) hT) (JN_5 (JN_fr (F2 := us S.1 57 _) (M2 := us M.1 56 _) (fun c i hc => us_nc (by omega)) (fun c i hc => us_nc (by omega)) hN) (by rw [us_nc (by decide)]; exact a1) (by unfold JC at hC; omega)) (JS_fr (fun c i hc => (ua_nc (by omega)).trans (us_nc (by omega))) (fun c i hc => (ua_nc (by omega)).trans (us_nc (by omega))) hS) (JW_fr (fun c i hc => (ua_nc (by omega)).trans (us_nc (by omega))) (fun c i hc => (ua_nc (by omega)).trans (us_nc (by omega))) hW) (hC2) (JH_fr (fun c i hc => (ua_nc (by omega)).trans (us_nc (by omega))) (fun c i hc => (ua_nc (by omega)).trans (us_nc (by omega))) hH) (JA_fr (fun c i hc => (ua_nc (by omega)).trans (us_nc (by omega))) (fun c i hc => (ua_nc (by omega)).trans (us_nc (by omega))) hA) (JK_fr (fun c i hc => (ua_nc (by omega)).trans (us_nc (by omega))) (fun c i hc => (ua_nc (by omega)).trans (us_nc (by omega))) hK) (nxi_fr (fun c i hc => (ua_nc (by omega)).trans (us_nc (by omega))) hX)⟩
theorem op_forget {S : St} {M : St} {n r r2 : Int} {S1 M1 : St} {x : Int} (h : JJ S M.1 n) (hn : n < 600) (hc : po_X9_forget S x r S1) (hm : po_X10_forget M x r2 M1) : r = r2 ∧ JJ S1 M1.1 (n + 1) := by
  obtain ⟨hT, hN, hS, hW, hC, hH, hA, hK, hX⟩ := id h
  have e51 := hN.2.2.2.2.1
  have r4 : 0 ≤ x → x < S.1 51 0 → M.1 6 x = S.1 5 ((S.2 x.toNat : Nat) : Int) := fun a b => (hN.2.2.2.2.2 x a b).2.2.2.1
  rcases hc with ⟨a1, a2, a3⟩ | ⟨a1, a2, a3, a4⟩ | ⟨a1, a2, a3, a4⟩
  · rcases hm with ⟨b1, b2, b3⟩ | ⟨b1, b2, b3, b4⟩ | ⟨b1, b2, b3, b4⟩
    · rw [a3, b3]; exact ⟨by omega, JJ_n h hn⟩
    · exact absurd b1 (by omega)
    · exact absurd b1 (by omega)
  · have r4 := r4 a1.1 a1.2
    rcases hm with ⟨b1, b2, b3⟩ | ⟨b1, b2, b3, b4⟩ | ⟨b1, b2, b3, b4⟩
    · exact absurd a1 (by omega)
    · rw [a4, b4]; exact ⟨by omega, JJ_n h hn⟩
    · exact absurd (r4.trans a2) b2
  · have r4 := r4 a1.1 a1.2
    rcases hm with ⟨b1, b2, b3⟩ | ⟨b1, b2, b3, b4⟩ | ⟨b1, b2, b3, b4⟩
    · exact absurd a1 (by omega)
    · exact absurd (r4.symm.trans b2) a2
    · rw [a4, b4]
      exact ⟨by omega, JJ_of (JT_fr (fun c i hc => ua_nc (by omega)) (fun c i hc => ua_nc (by omega)) hT) (JN_5 hN a1 (by omega)) (JS_fr (fun c i hc => ua_nc (by omega)) (fun c i hc => ua_nc (by omega)) hS) (JW_fr (fun c i hc => ua_nc (by omega)) (fun c i hc => ua_nc (by omega)) hW) (JC_fr hn (fun c i hc => ua_nc (by omega)) (fun c i hc => ua_nc (by omega)) hC) (JH_fr (fun c i hc => ua_nc (by omega)) (fun c i hc => ua_nc (by omega)) hH) (JA_fr (fun c i hc => ua_nc (by omega)) (fun c i hc => ua_nc (by omega)) hA) (JK_fr (fun c i hc => ua_nc (by omega)) (fun c i hc => ua_nc (by omega)) hK) (nxi_fr (fun c i hc => ua_nc (by omega)) hX)⟩
theorem op_drop {S : St} {M : St} {n r r2 : Int} {S1 M1 : St} {x : Int} (h : JJ S M.1 n) (hn : n < 600) (hc : po_X9_drop S x r S1) (hm : po_X10_drop M x r2 M1) : r = r2 ∧ JJ S1 M1.1 (n + 1) := by
  obtain ⟨hT, hN, hS, hW, hC, hH, hA, hK, hX⟩ := id h
  have e51 := hN.2.2.2.2.1
  rcases hc with ⟨a1, a2, a3⟩ | ⟨a1, a2, a3, a4⟩ | ⟨a1, a2, a3, a4⟩
  · rcases hm with ⟨b1, b2, b3⟩ | ⟨b1, b2, b3, b4⟩ | ⟨b1, b2, b3, b4, b5, b6⟩
    · rw [a3, b3]; exact ⟨by omega, JJ_n h hn⟩
    · exact absurd b1 (by omega)
    · exact absurd b1 (by omega)
  · rcases hm with ⟨b1, b2, b3⟩ | ⟨b1, b2, b3, b4⟩ | ⟨b1, b2, b3, b4, b5, b6⟩
    · exact absurd a1 (by omega)
    · rw [a4, b4]; exact ⟨by omega, JJ_n h hn⟩
    · exact absurd a2 (by omega)
  · rcases hm with ⟨b1, b2, b3⟩ | ⟨b1, b2, b3, b4⟩ | ⟨b1, b2, b3, b4, b5, b6⟩
    · exact absurd a1 (by omega)
    · exact absurd b2 (by omega)
    · rw [a4]
      rw [e51] at b5 b6
      exact ⟨by omega, JJ_of (JT_fr (fun c i hc => us_nc (by omega)) (fun c i hc => b6.2.2.2 c i (by omega) (by omega)) hT) (JN_drop hN a1 rfl a2 b6 b5) (JS_fr (fun c i hc => us_nc (by omega)) (fun c i hc => b6.2.2.2 c i (by omega) (by omega)) hS) (JW_fr (fun c i hc => us_nc (by omega)) (fun c i hc => b6.2.2.2 c i (by omega) (by omega)) hW) (JC_fr hn (fun c i hc => us_nc (by omega)) (fun c i hc => b6.2.2.2 c i (by omega) (by omega)) hC) (JH_fr (fun c i hc => us_nc (by omega)) (fun c i hc => b6.2.2.2 c i (by omega) (by omega)) hH) (JA_fr (fun c i hc => us_nc (by omega)) (fun c i hc => b6.2.2.2 c i (by omega) (by omega)) hA) (JK_fr (fun c i hc => us_nc (by omega)) (fun c i hc => b6.2.2.2 c i (by omega) (by omega)) hK) (nxi_fr (fun c i hc => us_nc (by omega)) hX)⟩
theorem op_rename {S : St} {M : St} {n r r2 : Int} {S1 M1 : St} {x : Int} {u : Int} (h : JJ S M.1 n) (hn : n < 600) (hc : po_X9_rename S x u r S1) (hm : po_X10_rename M x u r2 M1) : r = r2 ∧ JJ S1 M1.1 (n + 1) := by
  obtain ⟨hT, hN, hS, hW, hC, hH, hA, hK, hX⟩ := id h
  have e51 := hN.2.2.2.2.1
  have e57 := hC.2.2.2.1
  have r4 : 0 ≤ x → x < S.1 51 0 → M.1 4 x = S.1 3 ((S.2 x.toNat : Nat) : Int) := fun a b => (hN.2.2.2.2.2 x a b).2.1
  rcases hc with ⟨a1, a2, a3⟩ | ⟨a1, a5, a2, a3, a4⟩ | ⟨a1, a5, a2, a3, a4⟩
  · rcases hm with ⟨b1, b2, b3⟩ | ⟨b1, b5, b2, b3, b4⟩ | ⟨b1, b5, b2, b3, b4⟩
    · rw [a3, b3]; exact ⟨by omega, JJ_n h hn⟩
    · exact absurd b1 (by omega)
    · exact absurd b1 (by omega)
  · have r4 := r4 a1.1 a1.2
    rcases hm with ⟨b1, b2, b3⟩ | ⟨b1, b5, b2, b3, b4⟩ | ⟨b1, b5, b2, b3, b4⟩
    · exact absurd a1 (by omega)
    · rw [a4, b4]; exact ⟨by omega, JJ_n h hn⟩
    · exact absurd (r4.trans a2) b2
  · have r4 := r4 a1.1 a1.2
    rcases hm with ⟨b1, b2, b3⟩ | ⟨b1, b5, b2, b3, b4⟩ | ⟨b1, b5, b2, b3, b4⟩
    · exact absurd a1 (by omega)
    · exact absurd (r4.symm.trans b2) a2
    · rw [a4, b4]
      have hC2 : JC (us (ua S.1 3 ((S.2 x.toNat : Nat) : Int) u) 58 (S.1 58 0 + 1)) (us (ua M.1 4 x u) 57 (M.1 57 0 + 1)) (n + 1) := by
        unfold JC at hC ⊢
        rw [us_nc (by decide), ua_nc (by decide), us_nc (by decide), ua_nc (by decide), us_eq, us_nc (by decide), ua_nc (by decide), us_nc (by decide), ua_nc (by decide), us_nc (by decide), ua_nc (by decide), us_eq, us_nc (by decide), ua_nc (by decide)]
        omega
      exact ⟨by omega, JJ_of (JT_fr (fun c i hc => (us_nc (by omega)).trans (ua_nc (by omega))) (fun c i hc => (us_nc (by omega)).trans (ua_nc (by omega))) hT) (JN_fr (F := ua S.1 3 ((S.2 x.toNat : Nat) : Int) u) (M := ua M.1 4 x u) (fun c i hc => us_nc (by omega)) (fun c i hc => us_nc (by omega)) (JN_3 hN a1 (by omega))) (JS_fr (fun c i hc => (us_nc (by omega)).trans (ua_nc (by omega))) (fun c i hc => (us_nc (by omega)).trans (ua_nc (by omega))) hS) (JW_fr (fun c i hc => (us_nc (by omega)).trans (ua_nc (by omega))) (fun c i hc => (us_nc (by omega)).trans (ua_nc (by omega))) hW) (hC2) (JH_fr (fun c i hc => (us_nc (by omega)).trans (ua_nc (by omega))) (fun c i hc => (us_nc (by omega)).trans (ua_nc (by omega))) hH) (JA_fr (fun c i hc => (us_nc (by omega)).trans (ua_nc (by omega))) (fun c i hc => (us_nc (by omega)).trans (ua_nc (by omega))) hA) (JK_fr (fun c i hc => (us_nc (by omega)).trans (ua_nc (by omega))) (fun c i hc => (us_nc (by omega)).trans (ua_nc (by omega))) hK) (nxi_fr (fun c i hc => (us_nc (by omega)).trans (ua_nc (by omega))) hX)⟩
theorem op_worth {S : St} {M : St} {n r r2 : Int} {S1 M1 : St} {x : Int} {u : Int} {z : Int} (h : JJ S M.1 n) (hn : n < 600) (hc : po_X9_worth S x u z r S1) (hm : po_X10_worth M x u z r2 M1) : r = r2 ∧ JJ S1 M1.1 (n + 1) := by
  obtain ⟨hT, hN, hS, hW, hC, hH, hA, hK, hX⟩ := id h
  have e57 := hC.2.2.2.1
  have s1 := hS.2.1
  have s2 := hS.2.2.1
  have s3 := hS.2.2.2
  rcases hc with ⟨a1, a2, a3⟩ | ⟨a1, a2, a3, a4⟩ | ⟨a1, a2, a3, a4⟩
  · rcases hm with ⟨b1, b2, b3⟩ | ⟨b1, b2, b3, b4⟩ | ⟨b1, b2, b3, b4⟩
    · rw [a3, b3]; exact ⟨by omega, JJ_n h hn⟩
    · exact absurd b1 a1
    · exact absurd b1 a1
  · rcases hm with ⟨b1, b2, b3⟩ | ⟨b1, b2, b3, b4⟩ | ⟨b1, b2, b3, b4⟩
    · exact absurd a1 b1
    · rw [a4, b4]; exact ⟨by omega, JJ_n h hn⟩
    · exact absurd a2 (by omega)
  · rcases hm with ⟨b1, b2, b3⟩ | ⟨b1, b2, b3, b4⟩ | ⟨b1, b2, b3, b4⟩
    · exact absurd a1 b1
    · exact absurd b2 (by omega)
    · rw [a4, b4]
      have hC2 : JC (us (us (us (us S.1 53 x) 54 u) 55 z) 58 (S.1 58 0 + 1)) (us (ua (ua (ua M.1 7 0 x) 7 1 u) 7 2 z) 57 (M.1 57 0 + 1)) (n + 1) := by
        unfold JC at hC ⊢
        rw [us_nc (by decide), us_nc (by decide), us_nc (by decide), us_nc (by decide), us_nc (by decide), us_nc (by decide), us_nc (by decide), us_nc (by decide), us_eq, us_nc (by decide), us_nc (by decide), us_nc (by decide), us_nc (by decide), us_nc (by decide), ua_nc (by decide), ua_nc (by decide), ua_nc (by decide), us_nc (by decide), ua_nc (by decide), ua_nc (by decide), ua_nc (by decide), us_eq, us_nc (by decide), ua_nc (by decide), ua_nc (by decide), ua_nc (by decide)]
        omega
      have hS2 : JS (us (us (us (us S.1 53 x) 54 u) 55 z) 58 (S.1 58 0 + 1)) (us (ua (ua (ua M.1 7 0 x) 7 1 u) 7 2 z) 57 (M.1 57 0 + 1)) := by
        unfold JS
        rw [us_nc (by decide), us_nc (by decide), us_nc (by decide), us_eq, us_nc (by decide), us_nc (by decide), us_eq, us_nc (by decide), us_eq, us_nc (by decide), ua_ni (by decide), ua_ni (by decide), ua_eq, us_nc (by decide), ua_ni (by decide), ua_eq, us_nc (by decide), ua_eq]
        omega
      exact ⟨by omega, JJ_of (JT_fr (fun c i hc => (((us_nc (by omega)).trans (us_nc (by omega))).trans (us_nc (by omega))).trans (us_nc (by omega))) (fun c i hc => (((us_nc (by omega)).trans (ua_nc (by omega))).trans (ua_nc (by omega))).trans (ua_nc (by omega))) hT) (JN_fr (fun c i hc => (((us_nc (by omega)).trans (us_nc (by omega))).trans (us_nc (by omega))).trans (us_nc (by omega))) (fun c i hc => (((us_nc (by omega)).trans (ua_nc (by omega))).trans (ua_nc (by omega))).trans (ua_nc (by omega))) hN) (hS2) (JW_fr (fun c i hc => (((us_nc (by omega)).trans (us_nc (by omega))).trans (us_nc (by omega))).trans (us_nc (by omega))) (fun c i hc => (((us_nc (by omega)).trans (ua_nc (by omega))).trans (ua_nc (by omega))).trans (ua_nc (by omega))) hW) (hC2) (JH_fr (fun c i hc => (((us_nc (by omega)).trans (us_nc (by omega))).trans (us_nc (by omega))).trans (us_nc (by omega))) (fun c i hc => (((us_nc (by omega)).trans (ua_nc (by omega))).trans (ua_nc (by omega))).trans (ua_nc (by omega))) hH) (JA_fr (fun c i hc => (((us_nc (by omega)).trans (us_nc (by omega))).trans (us_nc (by omega))).trans (us_nc (by omega))) (fun c i hc => (((us_nc (by omega)).trans (ua_nc (by omega))).trans (ua_nc (by omega))).trans (ua_nc (by omega))) hA) (JK_fr (fun c i hc => (((us_nc (by omega)).trans (us_nc (by omega))).trans (us_nc (by omega))).trans (us_nc (by omega))) (fun c i hc => (((us_nc (by omega)).trans (ua_nc (by omega))).trans (ua_nc (by omega))).trans (ua_nc (by omega))) hK) (nxi_fr (fun c i hc => (((us_nc (by omega)).trans (us_nc (by omega))).trans (us_nc (by omega))).trans (us_nc (by omega))) hX)⟩
theorem op_asked {S : St} {M : St} {n r r2 : Int} {S1 M1 : St} {x : Int} (h : JJ S M.1 n) (hn : n < 600) (hc : po_X9_asked S x r S1) (hm : po_X10_asked M x r2 M1) : r = r2 ∧ JJ S1 M1.1 (n + 1) := by
  obtain ⟨hT, hN, hS, hW, hC, hH, hA, hK, hX⟩ := id h
  rw [hc.2, hm.2]
  refine ⟨?_, JJ_n h hn⟩
  rw [hc.1, hm.1, hA.2.2.1]
  by_cases e : 0 ≤ x ∧ x < 6
  · rw [if_neg (show ¬ ¬ (0 ≤ x ∧ x < 6) from fun z => z e), if_neg (show ¬ ¬ (0 ≤ x ∧ x < 6) from fun z => z e), hA.2.2.2 x e.1 e.2]
  · rw [if_pos e, if_pos e]
theorem op_keep {S : St} {M : St} {n r r2 : Int} {S1 M1 : St}  (h : JJ S M.1 n) (hn : n < 600) (hc : po_X9_keep S  r S1) (hm : po_X10_keep M  r2 M1) : r = r2 ∧ JJ S1 M1.1 (n + 1) := by
  obtain ⟨hT, hN, hS, hW, hC, hH, hA, hK, hX⟩ := id h
  have e54 := hW.2.2.2.1
  rcases hc with ⟨a1, a2, a3⟩ | ⟨a1, a2, U, a3, a4⟩
  · rcases hm with ⟨b1, b2, b3⟩ | ⟨b1, b2, V, b3, b4⟩
    · rw [a3, b3]; exact ⟨by omega, JJ_n h hn⟩
    · exact absurd b1 (by omega)
  · rcases hm with ⟨b1, b2, b3⟩ | ⟨b1, b2, V, b3, b4⟩
    · exact absurd b1 (by omega)
    · rw [a4, b4]
      have w2 := hW.2.1
      exact ⟨by omega, JJ_of (JT_fr (fun c i hc => (us_nc (by omega)).trans (a3.2.2 c i (by omega) (by omega))) (fun c i hc => (us_nc (by omega)).trans (b3.2.2 c i (by omega) (by omega))) hT) (JN_fr (fun c i hc => (us_nc (by omega)).trans (a3.2.2 c i (by omega) (by omega))) (fun c i hc => (us_nc (by omega)).trans (b3.2.2 c i (by omega) (by omega))) hN) (JS_fr (fun c i hc => (us_nc (by omega)).trans (a3.2.2 c i (by omega) (by omega))) (fun c i hc => (us_nc (by omega)).trans (b3.2.2 c i (by omega) (by omega))) hS) (JW_keep hW a1 a3 b3) (JC_fr hn (fun c i hc => (us_nc (by omega)).trans (a3.2.2 c i (by omega) (by omega))) (fun c i hc => (us_nc (by omega)).trans (b3.2.2 c i (by omega) (by omega))) hC) (JH_fr (fun c i hc => (us_nc (by omega)).trans (a3.2.2 c i (by omega) (by omega))) (fun c i hc => (us_nc (by omega)).trans (b3.2.2 c i (by omega) (by omega))) hH) (JA_fr (fun c i hc => (us_nc (by omega)).trans (a3.2.2 c i (by omega) (by omega))) (fun c i hc => (us_nc (by omega)).trans (b3.2.2 c i (by omega) (by omega))) hA) (JK_fr (fun c i hc => (us_nc (by omega)).trans (a3.2.2 c i (by omega) (by omega))) (fun c i hc => (us_nc (by omega)).trans (b3.2.2 c i (by omega) (by omega))) hK) (nxi_fr (fun c i hc => (us_nc (by omega)).trans (a3.2.2 c i (by omega) (by omega))) hX)⟩
theorem op_back {S : St} {M : St} {n r r2 : Int} {S1 M1 : St}  (h : JJ S M.1 n) (hn : n < 600) (hc : po_X9_back S  r S1) (hm : po_X10_back M  r2 M1) : r = r2 ∧ JJ S1 M1.1 (n + 1) := by
  obtain ⟨hT, hN, hS, hW, hC, hH, hA, hK, hX⟩ := id h
  have e54 := hW.2.2.2.1
  rcases hc with ⟨a1, a2, a3⟩ | ⟨a1, a2, U, a3, a4⟩
  · rcases hm with ⟨b1, b2, b3⟩ | ⟨b1, b2, b4, b3⟩
    · rw [a3, b3]; exact ⟨by omega, JJ_n h hn⟩
    · exact absurd b1 (by omega)
  · rcases hm with ⟨b1, b2, b3⟩ | ⟨b1, b2, b4, b3⟩
    · exact absurd b1 (by omega)
    · rw [a4]
      exact ⟨by omega, JJ_of (JT_fr (fun c i hc => (a3.2.2 c i (by omega) (by omega)).trans (us_nc (by omega))) (fun c i hc => b3.2.2.2 c i (by omega) (by omega) (by omega)) hT) (JN_fr (fun c i hc => (a3.2.2 c i (by omega) (by omega)).trans (us_nc (by omega))) (fun c i hc => b3.2.2.2 c i (by omega) (by omega) (by omega)) hN) (JS_fr (fun c i hc => (a3.2.2 c i (by omega) (by omega)).trans (us_nc (by omega))) (fun c i hc => b3.2.2.2 c i (by omega) (by omega) (by omega)) hS) (JW_back hW a1 a3 b3) (JC_fr hn (fun c i hc => (a3.2.2 c i (by omega) (by omega)).trans (us_nc (by omega))) (fun c i hc => b3.2.2.2 c i (by omega) (by omega) (by omega)) hC) (JH_fr (fun c i hc => (a3.2.2 c i (by omega) (by omega)).trans (us_nc (by omega))) (fun c i hc => b3.2.2.2 c i (by omega) (by omega) (by omega)) hH) (JA_fr (fun c i hc => (a3.2.2 c i (by omega) (by omega)).trans (us_nc (by omega))) (fun c i hc => b3.2.2.2 c i (by omega) (by omega) (by omega)) hA) (JK_fr (fun c i hc => (a3.2.2 c i (by omega) (by omega)).trans (us_nc (by omega))) (fun c i hc => b3.2.2.2 c i (by omega) (by omega) (by omega)) hK) (nxi_fr (fun c i hc => (a3.2.2 c i (by omega) (by omega)).trans (us_nc (by omega))) hX)⟩
theorem op_count {S : St} {M : St} {n r r2 : Int} {S1 M1 : St} {x : Int} (h : JJ S M.1 n) (hn : n < 600) (hc : po_X9_count S x r S1) (hm : po_X10_count M x r2 M1) : r = r2 ∧ JJ S1 M1.1 (n + 1) := by
  obtain ⟨hT, hN, hS, hW, hC, hH, hA, hK, hX⟩ := id h
  rw [hc.2, hm.2]
  refine ⟨?_, JJ_n h hn⟩
  rw [hc.1, hm.1, hN.2.2.2.2.1, hS.2.1, hS.2.2.1, hS.2.2.2, hC.2.1, hC.2.2.1, hC.2.2.2.1, hC.2.2.2.2, hH.2.1, hH.2.2, hW.2.2.2.1, hT.2.2.1, JW_word hW]
