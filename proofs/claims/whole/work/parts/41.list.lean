/-! the list: both sides -/
section LIST
/-- how many have it -/
noncomputable def cq (Q : Int → Prop) : Nat → Int
  | 0 => 0
  | n + 1 => @ite Int (Q n) (Classical.propDecidable _) (cq Q n + 1) (cq Q n)
theorem cq_yes {Q : Int → Prop} {n : Nat} (h : Q n) : cq Q (n + 1) = cq Q n + 1 := by rw [cq, if_pos h]
theorem cq_no {Q : Int → Prop} {n : Nat} (h : ¬ Q n) : cq Q (n + 1) = cq Q n := by rw [cq, if_neg h]
theorem cq_congr {Q R : Int → Prop} : ∀ n : Nat, (∀ y : Int, 0 ≤ y → y < n → (Q y ↔ R y)) → cq Q n = cq R n
  | 0, _ => rfl
  | n + 1, h => by
    have e := h n (by omega) (by omega)
    have ih := cq_congr n (fun y a b => h y a (by omega))
    by_cases z : Q n
    · rw [cq_yes z, cq_yes (e.mp z), ih]
    · rw [cq_no z, cq_no (fun w => z (e.mpr w)), ih]
theorem cq_r (Q : Int → Prop) : ∀ n : Nat, 0 ≤ cq Q n
  | 0 => by rw [cq]; omega
  | n + 1 => by
    have := cq_r Q n
    by_cases z : Q n
    · rw [cq_yes z]; omega
    · rw [cq_no z]; omega
theorem cq_0 {Q : Int → Prop} : ∀ n : Nat, (cq Q n = 0 ↔ ∀ y : Int, 0 ≤ y → y < n → ¬ Q y)
  | 0 => ⟨fun _ y a b => absurd b (by omega), fun _ => rfl⟩
  | n + 1 => by
    have ih := cq_0 (Q := Q) n
    have hr := cq_r Q n
    by_cases z : Q n
    · rw [cq_yes z]
      constructor
      · intro h; omega
      · intro h; exact absurd z (h n (by omega) (by omega))
    · rw [cq_no z, ih]
      constructor
      · intro h y a b
        rcases Int.lt_or_le y n with w | w
        · exact h y a w
        · rw [show y = n by omega]; exact z
      · intro h y a b; exact h y a (by omega)
theorem cq_rm {Q : Int → Prop} {z : Int} (h0 : 0 ≤ z) (hz : Q z) : ∀ n : Nat, z < n → cq Q n = cq (fun y => Q y ∧ ¬ y = z) n + 1
  | 0, h => absurd h (by omega)
  | n + 1, h => by
    by_cases e : z = n
    · rw [cq_yes (show Q n by rw [← e]; exact hz), cq_no (show ¬ (Q (n : Int) ∧ ¬ (n : Int) = z) from fun w => w.2 e.symm), cq_congr n (R := fun y => Q y ∧ ¬ y = z) (fun y a b => ⟨fun q => ⟨q, by omega⟩, fun q => q.1⟩)]
    · have ih := cq_rm h0 hz n (by omega)
      by_cases w : Q n
      · rw [cq_yes w, cq_yes (show Q (n : Int) ∧ ¬ (n : Int) = z from ⟨w, fun q => e q.symm⟩), ih]
      · rw [cq_no w, cq_no (show ¬ (Q (n : Int) ∧ ¬ (n : Int) = z) from fun q => w q.1), ih]
theorem cq_enum {N : Nat} (e : Int → Int) : ∀ (i : Nat) (Q : Int → Prop), (∀ j : Int, 0 ≤ j → j < i → (0 ≤ e j ∧ e j < N) ∧ Q (e j)) → (∀ j k : Int, 0 ≤ j → j < k → k < i → ¬ e j = e k) → (∀ y : Int, 0 ≤ y → y < N → Q y → ∃ j : Int, (0 ≤ j ∧ j < i) ∧ e j = y) → cq Q N = i
  | 0, Q, _, _, h3 => (cq_0 N).mpr (fun y a b q => by obtain ⟨j, c, _⟩ := h3 y a b q; omega)
  | i + 1, Q, h1, h2, h3 => by
    have hi := h1 i (by omega) (by omega)
    rw [cq_rm hi.1.1 hi.2 N hi.1.2, cq_enum e i (fun y => Q y ∧ ¬ y = e i) (fun j a b => ⟨(h1 j a (by omega)).1, (h1 j a (by omega)).2, h2 j i a (by omega) (by omega)⟩) (fun j k a b c => h2 j k a b (by omega)) (fun y a b q => by
      obtain ⟨j, c, d⟩ := h3 y a b q.1
      exact ⟨j, ⟨c.1, by
        rcases Int.lt_or_le j i with w | w
        · exact w
        · exact absurd (by rw [← d, show j = i by omega]) q.2⟩, d⟩)]
    omega
theorem ahoM_cq (sc pk nf : Int → Int) (x : Int) : ∀ n : Nat, ahoM sc pk nf x n = cq (fun y => ¬ y = x ∧ ¬ sc y = -4 ∧ ahd (sc y) (sc x) (pk y) (pk x) (nf y) (nf x) y x) n
  | 0 => rfl
  | n + 1 => by
    rw [ahoM, ahoM_cq sc pk nf x n]
    by_cases h : ¬ (n : Int) = x ∧ ¬ sc n = -4 ∧ ahd (sc n) (sc x) (pk n) (pk x) (nf n) (nf x) n x
    · rw [if_pos h, cq_yes h]
    · rw [if_neg h, cq_no h]
theorem nnc_cq (f : Int → Int) : ∀ n : Nat, nnc f n = cq (fun y => ¬ f y = -4) n
  | 0 => rfl
  | n + 1 => by
    rw [nnc, nnc_cq f n]
    by_cases h : f n = -4
    · rw [if_pos h, cq_no (fun z => z h)]
    · rw [if_neg h, cq_yes h]
section RK
variable {W : Nat → Int → Int} {P : Nat → Nat} {N : Int} {sc pk nf : Int → Int}
theorem rk_inj (h : rkI W P N) : ∀ j k : Int, 0 ≤ j → j < k → k < W 64 0 → ¬ W 29 j = W 29 k := fun j k a b c e => by
  have h4 := h.2.2.2.1 j k a b c
  rw [e] at h4
  unfold ahS ahd at h4
  omega
theorem rk_nnc (h : rkI W P N) (hN : 0 ≤ N) (hsc : ∀ y : Int, 0 ≤ y → y < N → sc y = W 15 y) : nnc sc N.toNat = W 64 0 := by
  have h1 := h.1
  rw [nnc_cq, cq_enum (W 29) (W 64 0).toNat _ (fun j a b => ?_) (fun j k a b c => rk_inj h j k a b (by omega)) (fun y a b q => ?_)]
  · omega
  · obtain ⟨p, q, s⟩ := h.2.2.1 j a (by omega)
    exact ⟨⟨p, by omega⟩, by rw [hsc _ p q]; exact s⟩
  · rw [hsc y a (by omega)] at q
    obtain ⟨i, i1, i2, i3⟩ := h.2.2.2.2 y a (by omega) q
    exact ⟨i, ⟨i1, by omega⟩, i3⟩
theorem rk_aho (h : rkI W P N) (hN : 0 ≤ N) (hsc : ∀ y : Int, 0 ≤ y → y < N → sc y = W 15 y) (hpk : ∀ y : Int, 0 ≤ y → y < N → pk y = W 5 ((P y.toNat : Nat) : Int)) (hnf : ∀ y : Int, 0 ≤ y → y < N → nf y = W 2 ((P y.toNat : Nat) : Int)) {i : Int} (hi : 0 ≤ i ∧ i < W 64 0) : ahoM sc pk nf (W 29 i) N.toNat = i := by
  obtain ⟨g1, g2, g3⟩ := h.2.2.1 i hi.1 hi.2
  have ea : ∀ y : Int, 0 ≤ y → y < N → (ahd (sc y) (sc (W 29 i)) (pk y) (pk (W 29 i)) (nf y) (nf (W 29 i)) y (W 29 i) ↔ ahS W P y (W 29 i)) := fun y a b => by
    rw [hsc y a b, hsc _ g1 g2, hpk y a b, hpk _ g1 g2, hnf y a b, hnf _ g1 g2]
  rw [ahoM_cq, cq_enum (W 29) i.toNat _ (fun j a b => ?_) (fun j k a b c => rk_inj h j k a b (by omega)) (fun y a b q => ?_)]
  · omega
  · obtain ⟨p, q, s⟩ := h.2.2.1 j a (by omega)
    exact ⟨⟨p, by omega⟩, rk_inj h j i a (by omega) hi.2, by rw [hsc _ p q]; exact s, (ea _ p q).mpr (h.2.2.2.1 j i a (by omega) hi.2)⟩
  · obtain ⟨q1, q2, q3⟩ := q
    rw [hsc y a (by omega)] at q2
    obtain ⟨k, k1, k2, k3⟩ := h.2.2.2.2 y a (by omega) q2
    refine ⟨k, ⟨k1, ?_⟩, k3⟩
    rcases Int.lt_or_le k i with w | w
    · omega
    · by_cases e : k = i
      · rw [e] at k3; exact absurd k3.symm q1
      · have a1 := h.2.2.2.1 i k hi.1 (by omega) k2
        rw [k3] at a1
        exact absurd ((ea y a (by omega)).mp q3) (ahd_irr a1)
end RK
theorem SKA {S : St} {M G : Nat → Int → Int} {n : Int} (h : JJ S M n) (hG : ∀ (c : Nat) (i : Int), ¬ c = 15 → ¬ c = 61 → G c i = M c i) : ∀ k : Nat, (k : Int) ≤ S.1 51 0 → JK (skA S.1 S.2 k) (skMA G k) ∧ JHb (skA S.1 S.2 k) (skMA G k) (8 * n + k) ∧ (∀ j : Int, 0 ≤ j → j < k → skMA G k 23 j = skA S.1 S.2 k 15 j) ∧ (∀ (c : Nat) (i : Int), ¬ (10 ≤ c ∧ c < 14) → ¬ c = 15 → ¬ c = 61 → ¬ c = 62 → skA S.1 S.2 k c i = S.1 c i) ∧ ∀ (c : Nat) (i : Int), ¬ (16 ≤ c ∧ c ≤ 19) → ¬ c = 23 → ¬ c = 58 → ¬ c = 59 → skMA G k c i = G c i
  | 0, _ => by
    obtain ⟨hT, hN, hS, hW, hC, hH, hA, hK, hX⟩ := h
    refine ⟨JK_fr (fun _ _ _ => rfl) (fun c i hc => hG c i (by omega) (by omega)) hK, JHb_fr (F := S.1) (M := M) (fun _ _ _ => rfl) (fun c i hc => hG c i (by omega) (by omega)) ?_, fun j a b => absurd b (by omega), fun _ _ _ _ _ _ => rfl, fun _ _ _ _ _ _ => rfl⟩
    unfold JH at hH
    unfold JHb
    omega
  | k + 1, hk => by
    obtain ⟨i1, i2, i3, i4, i5⟩ := SKA h hG k (by omega)
    have hx : 0 ≤ (k : Int) ∧ (k : Int) < S.1 51 0 := by omega
    have ek : ((k : Int)).toNat = k := by omega
    have g : ∀ c : Nat, ¬ c = 15 → ¬ c = 61 → G c = M c := fun c p q => funext (fun i => hG c i p q)
    have hps : psO S.1 S.2 (k : Int) ↔ psF G (k : Int) := by
      have := MPS h hx
      unfold psO psF
      rw [g 2 (by decide) (by decide), g 3 (by decide) (by decide), g 12 (by decide) (by decide), g 53 (by decide) (by decide)]
      exact this
    by_cases hp : psO S.1 S.2 (k : Int)
    · have hp2 := hps.mp hp
      rw [skA, skMA, if_pos hp, if_pos hp2]
      have hw := MWD h
      have hr := h.2.1.2.2.2.2.2 k hx.1 hx.2
      have ho := h.2.1.2.2.2.1 k hx.1 hx.2
      rw [ek] at hr ho
      have hsc0 := sc_MR h hx
      rw [ek] at hsc0
      obtain ⟨hT, hN, hS, hW, hC, hH, hA, hK, hX⟩ := id h
      have hC2 := hC
      unfold JC at hC2
      have hcd := cdv_r (f := S.1 (16 + 0)) (S.1 8 0).toNat (by omega) (fun i p q => hW.1 0 (by decide) |>.2 i p (by show i < S.1 8 0; omega))
      have hsc := wor_r (sg := S.1 (20 + S.2 k)) (f := S.1 (16 + 0)) (kd := S.1 3 ((S.2 k : Nat) : Int)) (bg := S.1 6 ((S.2 k : Nat) : Int)) (n := S.1 2 ((S.2 k : Nat) : Int)) (m := S.1 8 0) hS.1.1 hS.1.2.1 hS.1.2.2 (by have := ho.1; omega) hw.1
      have e1 : scF G (k : Int) = scO S.1 (S.2 k) := by
        unfold scF
        rw [g 2 (by decide) (by decide), g 3 (by decide) (by decide), g 4 (by decide) (by decide), g 7 (by decide) (by decide), g 12 (by decide) (by decide), g 53 (by decide) (by decide)]
        exact hsc0
      have e2 : cdv (G 12) (G 53 0).toNat = cdO S.1 := by
        rw [g 12 (by decide) (by decide), g 53 (by decide) (by decide)]
        exact (JW_word hW).symm
      rw [e1, e2]
      have e3 : G 5 (k : Int) = skA S.1 S.2 k 4 ((S.2 k : Nat) : Int) := by rw [i4 4 _ (by decide) (by decide) (by decide) (by decide), g 5 (by decide) (by decide)]; exact hr.2.2.1
      have e4 : G 57 0 = skA S.1 S.2 k 58 0 := by rw [i4 58 _ (by decide) (by decide) (by decide) (by decide), g 57 (by decide) (by decide)]; exact hC.2.2.2.1
      have hsk := SK (p := S.2 k) (di := G 5 (k : Int)) (ag := G 57 0) (cd := cdO S.1) (sc := scO S.1 (S.2 k)) (u := 8 * n + k) i1 i2 e3 (by rw [g 5 (by decide) (by decide), hr.2.2.1]; exact ho.2.2.1) e4 (by rw [g 57 (by decide) (by decide)]; omega) (by unfold cdO; omega) hsc
      refine ⟨JK_fr (fun c i hc => ua_nc (by omega)) (fun c i hc => ua_nc (by omega)) hsk.2.1, ?_, fun j a b => ?_, fun c i a b d e => ?_, fun c i a b d e => ?_⟩
      · have q := JHb_fr (F2 := ua (skF (skA S.1 S.2 k) (S.2 k) (scO S.1 (S.2 k)) (cdO S.1)).1 15 k (skF (skA S.1 S.2 k) (S.2 k) (scO S.1 (S.2 k)) (cdO S.1)).2) (M2 := ua (skM (skMA G k) (G 5 (k : Int)) (G 57 0) (cdO S.1) (scO S.1 (S.2 k))).1 23 k (skM (skMA G k) (G 5 (k : Int)) (G 57 0) (cdO S.1) (scO S.1 (S.2 k))).2) (fun c i hc => ua_nc (by omega)) (fun c i hc => ua_nc (by omega)) hsk.2.2
        rw [show 8 * n + ((k + 1 : Nat) : Int) = 8 * n + k + 1 by omega]
        exact q
      · rcases Int.lt_or_le j k with w | w
        · rw [ua_ni (by omega), ua_ni (by omega), skM_fr (by omega) (by omega) (by omega), skF_fr (by omega) (by omega) (by omega)]
          exact i3 j a w
        · rw [show j = k by omega, ua_eq, ua_eq]; exact hsk.1.symm
      · rw [ua_nc b, skF_fr a d e]; exact i4 c i a b d e
      · rw [ua_nc b, skM_fr a d e]; exact i5 c i a b d e
    · rw [skA, skMA, if_neg hp, if_neg (fun z => hp (hps.mpr z))]
      refine ⟨JK_fr (fun c i hc => ua_nc (by omega)) (fun c i hc => ua_nc (by omega)) i1, ?_, fun j a b => ?_, fun c i a b d e => ?_, fun c i a b d e => ?_⟩
      · have q := JHb_fr (F2 := ua (skA S.1 S.2 k) 15 k (-4)) (M2 := ua (skMA G k) 23 k (-4)) (fun c i hc => ua_nc (by omega)) (fun c i hc => ua_nc (by omega)) i2
        unfold JHb at q ⊢
        omega
      · rcases Int.lt_or_le j k with w | w
        · rw [ua_ni (by omega), ua_ni (by omega)]
          exact i3 j a w
        · rw [show j = k by omega, ua_eq, ua_eq]
      · rw [ua_nc b]; exact i4 c i a b d e
      · rw [ua_nc b]; exact i5 c i a b d e
theorem JA_ask {F M W A B : Nat → Int → Int} {u : Int} (h : JA F M) (hu : 0 ≤ u ∧ u < 1099511627776) (hW : ∀ (c : Nat) (i : Int), c = 14 ∨ c = 63 → W c i = F c i) (hA : askP M u A) (hB : ∀ (c : Nat) (i : Int), c = 15 ∨ c = 61 → B c i = A c i) : JA (askF W u) B := by
  obtain ⟨h1, h2, h3, h4⟩ := h
  obtain ⟨a0, a1, a2, a3, a4, a5, a6, a7⟩ := hA
  have b : ∀ i : Int, 0 ≤ i → i < 6 → i = 0 ∨ i = 1 ∨ i = 2 ∨ i = 3 ∨ i = 4 ∨ i = 5 := fun i p q => by omega
  have w0 : askF W u 14 0 = u := by unfold askF; rw [us_nc (by decide), ua_eq]
  have w1 : askF W u 14 1 = F 14 0 := by unfold askF; rw [us_nc (by decide), ua_ni (by decide), ua_eq]; exact hW 14 0 (Or.inl rfl)
  have w2 : askF W u 14 2 = F 14 1 := by unfold askF; rw [us_nc (by decide), ua_ni (by decide), ua_ni (by decide), ua_eq]; exact hW 14 1 (Or.inl rfl)
  have w3 : askF W u 14 3 = F 14 2 := by unfold askF; rw [us_nc (by decide), ua_ni (by decide), ua_ni (by decide), ua_ni (by decide), ua_eq]; exact hW 14 2 (Or.inl rfl)
  have w4 : askF W u 14 4 = F 14 3 := by unfold askF; rw [us_nc (by decide), ua_ni (by decide), ua_ni (by decide), ua_ni (by decide), ua_ni (by decide), ua_eq]; exact hW 14 3 (Or.inl rfl)
  have w5 : askF W u 14 5 = F 14 4 := by unfold askF; rw [us_nc (by decide), ua_ni (by decide), ua_ni (by decide), ua_ni (by decide), ua_ni (by decide), ua_ni (by decide), ua_eq]; exact hW 14 4 (Or.inl rfl)
  have w6 : askF W u 63 0 = (if 6 < F 63 0 + 1 then 6 else F 63 0 + 1) := by unfold askF; rw [us_eq, hW 63 0 (Or.inr rfl)]
  refine ⟨?_, fun i p q => ?_, ?_, fun i p q => ?_⟩
  · rw [w6]; split <;> omega
  · rcases b i p q with e | e | e | e | e | e <;> subst e
    · rw [w0]; exact hu
    · rw [w1]; exact h2 0 (by omega) (by omega)
    · rw [w2]; exact h2 1 (by omega) (by omega)
    · rw [w3]; exact h2 2 (by omega) (by omega)
    · rw [w4]; exact h2 3 (by omega) (by omega)
    · rw [w5]; exact h2 4 (by omega) (by omega)
  · rw [w6, hB 61 0 (Or.inr rfl), a6, h3]
  · rw [hB 15 i (Or.inl rfl)]
    rcases b i p q with e | e | e | e | e | e <;> subst e
    · rw [w0, a0]
    · rw [w1, a1]; exact h4 0 (by omega) (by omega)
    · rw [w2, a2]; exact h4 1 (by omega) (by omega)
    · rw [w3, a3]; exact h4 2 (by omega) (by omega)
    · rw [w4, a4]; exact h4 3 (by omega) (by omega)
    · rw [w5, a5]; exact h4 4 (by omega) (by omega)
theorem askF_fr {W : Nat → Int → Int} {u : Int} {c : Nat} {i : Int} (h1 : ¬ c = 14) (h2 : ¬ c = 63) : askF W u c i = W c i := by
  unfold askF
  rw [us_nc h2, ua_nc h1, ua_nc h1, ua_nc h1, ua_nc h1, ua_nc h1, ua_nc h1]
theorem op_list {S : St} {M : St} {n r r2 : Int} {S1 M1 : St} {x : Int} (h : JJ S M.1 n) (hn : n < 600) (hc : po_X9_list S x r S1) (hm : po_X10_list M x r2 M1) : r = r2 ∧ JJ S1 M1.1 (n + 1) := by
  have e51 := h.2.1.2.2.2.2.1
  rcases hc with ⟨a1, a2, a3⟩ | ⟨a1, W, a2, a3, a4, a5⟩
  · rcases hm with ⟨b1, b2, b3⟩ | ⟨b1, b2, G, b3, b4, b5⟩
    · rw [a3, b3]; exact ⟨by omega, JJ_n h hn⟩
    · exact absurd a1 (by omega)
  · rcases hm with ⟨b1, b2, b3⟩ | ⟨b1, b2, G, b3, b4, b5⟩
    · exact absurd a1 (by omega)
    · have hG : ∀ (c : Nat) (i : Int), ¬ c = 15 → ¬ c = 61 → G c i = M.1 c i := fun c i p q => by
        rcases b3 with z | z
        · exact z.2.2.2.2.2.2.2.2 c i p q
        · rw [z.2]
      have e51G : G 51 0 = S.1 51 0 := by rw [hG 51 0 (by decide) (by decide)]; exact e51
      rw [e51G] at b4 b5
      have hl := h.2.1.1
      obtain ⟨i1, i2, i3, i4, i5⟩ := SKA h hG (S.1 51 0).toNat (by omega)
      have hsc : ∀ y : Int, 0 ≤ y → y < S.1 51 0 → M1.1 23 y = W 15 y := fun y p q => by
        rw [b4 23 y (by decide) (by decide) (by decide), a2 15 y (by decide) (by decide) (by decide) (by decide)]
        exact i3 y p (by omega)
      have hpk : ∀ y : Int, 0 ≤ y → y < S.1 51 0 → G 6 y = W 5 ((S.2 y.toNat : Nat) : Int) := fun y p q => by
        rw [hG 6 y (by decide) (by decide), a2 5 _ (by decide) (by decide) (by decide) (by decide), i4 5 _ (by decide) (by decide) (by decide) (by decide)]
        exact (h.2.1.2.2.2.2.2 y p q).2.2.2.1
      have hnf : ∀ y : Int, 0 ≤ y → y < S.1 51 0 → G 3 y = W 2 ((S.2 y.toNat : Nat) : Int) := fun y p q => by
        rw [hG 3 y (by decide) (by decide), a2 2 _ (by decide) (by decide) (by decide) (by decide), i4 2 _ (by decide) (by decide) (by decide) (by decide)]
        exact (h.2.1.2.2.2.2.2 y p q).1
      have fW : ∀ (c : Nat) (i : Int), ¬ (30 ≤ c ∧ c < 46) → ¬ c = 60 → ¬ c = 29 → ¬ c = 64 → ¬ (10 ≤ c ∧ c < 14) → ¬ c = 15 → ¬ c = 61 → ¬ c = 62 → W c i = S.1 c i := fun c i p q r s t u v w => (a2 c i p q r s).trans (i4 c i t u v w)
      have fM : ∀ (c : Nat) (i : Int), ¬ (16 ≤ c ∧ c ≤ 23) → ¬ c = 58 → ¬ c = 59 → ¬ c = 62 → ¬ c = 63 → ¬ c = 15 → ¬ c = 61 → M1.1 c i = M.1 c i := fun c i p q r s t u v => ((b4 c i (by omega) s t).trans (i5 c i (by omega) (by omega) q r)).trans (hG c i u v)
      obtain ⟨hT, hN, hS, hW, hC, hH, hA, hK, hX⟩ := id h
      have hcd := cdv_r (f := S.1 (16 + 0)) (S.1 8 0).toNat (by have := (MWD h).1; omega) (fun i p q => hW.1 0 (by decide) |>.2 i p (by show i < S.1 8 0; omega))
      have key : ∀ V : Nat → Int → Int, (∀ (c : Nat) (i : Int), ¬ c = 14 → ¬ c = 63 → V c i = W c i) → JA V M1.1 → nxi V → JJ (V, S.2) M1.1 (n + 1) := fun V hV hJA hnx => by
        refine JJ_of ?_ ?_ ?_ ?_ ?_ ?_ hJA ?_ hnx
        · exact JT_fr (fun c i hc => (hV c i (by omega) (by omega)).trans (fW c i (by omega) (by omega) (by omega) (by omega) (by omega) (by omega) (by omega) (by omega))) (fun c i hc => fM c i (by omega) (by omega) (by omega) (by omega) (by omega) (by omega) (by omega)) hT
        · exact JN_fr (fun c i hc => (hV c i (by omega) (by omega)).trans (fW c i (by omega) (by omega) (by omega) (by omega) (by omega) (by omega) (by omega) (by omega))) (fun c i hc => fM c i (by omega) (by omega) (by omega) (by omega) (by omega) (by omega) (by omega)) hN
        · exact JS_fr (fun c i hc => (hV c i (by omega) (by omega)).trans (fW c i (by omega) (by omega) (by omega) (by omega) (by omega) (by omega) (by omega) (by omega))) (fun c i hc => fM c i (by omega) (by omega) (by omega) (by omega) (by omega) (by omega) (by omega)) hS
        · exact JW_fr (fun c i hc => (hV c i (by omega) (by omega)).trans (fW c i (by omega) (by omega) (by omega) (by omega) (by omega) (by omega) (by omega) (by omega))) (fun c i hc => fM c i (by omega) (by omega) (by omega) (by omega) (by omega) (by omega) (by omega)) hW
        · exact JC_fr hn (fun c i hc => (hV c i (by omega) (by omega)).trans (fW c i (by omega) (by omega) (by omega) (by omega) (by omega) (by omega) (by omega) (by omega))) (fun c i hc => fM c i (by omega) (by omega) (by omega) (by omega) (by omega) (by omega) (by omega)) hC
        · have q := JHb_fr (F2 := V) (M2 := M1.1) (fun c i hc => (hV c i (by omega) (by omega)).trans (a2 c i (by omega) (by omega) (by omega) (by omega))) (fun c i hc => b4 c i (by omega) (by omega) (by omega)) i2
          unfold JHb at q
          show JH V M1.1 (n + 1)
          unfold JH
          omega
        · exact JK_fr (fun c i hc => (hV c i (by omega) (by omega)).trans (a2 c i (by omega) (by omega) (by omega) (by omega))) (fun c i hc => b4 c i (by omega) (by omega) (by omega)) i1
      rcases a5 with ⟨x1, x2, x3⟩ | ⟨x1, x2, x3⟩
      · rcases b5 with ⟨y1, y2⟩ | ⟨y1, y2⟩
        · have hask : askP M.1 (cdv (M.1 12) (M.1 53 0).toNat) G := by
            rcases b3 with z | z
            · exact z.2
            · exact absurd z.1 (by omega)
          rw [← JW_word hW] at hask
          rw [x3]
          refine ⟨by rw [x2, y2, rk_nnc a3 (by omega) hsc], key _ (fun c i p q => askF_fr p q) (JA_ask hA (by unfold cdO; omega) (fun c i hc => fW c i (by omega) (by omega) (by omega) (by omega) (by omega) (by omega) (by omega) (by omega)) hask (fun c i hc => (b4 c i (by omega) (by omega) (by omega)).trans (i5 c i (by omega) (by omega) (by omega) (by omega)))) (nxi_fr (fun c i hc => askF_fr (by omega) (by omega)) a4)⟩
        · exact absurd y1 (by omega)
      · rcases b5 with ⟨y1, y2⟩ | ⟨y1, y2⟩
        · exact absurd y1 (by omega)
        · have hGM : G = M.1 := by
            rcases b3 with z | z
            · exact absurd z.1 (by omega)
            · exact z.2
          rw [x3]
          refine ⟨?_, key _ (fun c i p q => rfl) (JA_fr (fun c i hc => fW c i (by omega) (by omega) (by omega) (by omega) (by omega) (by omega) (by omega) (by omega)) (fun c i hc => ((b4 c i (by omega) (by omega) (by omega)).trans (i5 c i (by omega) (by omega) (by omega) (by omega))).trans (by rw [hGM])) hA) a4⟩
          have aho : ∀ i : Int, 0 ≤ i → i < W 64 0 → ahoM (M1.1 23) (G 6) (G 3) (W 29 i) (S.1 51 0).toNat = i := fun i p q => rk_aho a3 (by omega) hsc hpk hnf ⟨p, q⟩
          rw [x2]
          rcases y2 with ⟨q, q1, q2, q3, q4, q5⟩ | ⟨q1, q2⟩
          · rw [hsc q q1.1 q1.2] at q2
            obtain ⟨i, j1, j2, j3⟩ := a3.2.2.2.2 q q1.1 q1.2 q2
            have e := aho i j1 j2
            rw [j3, q3] at e
            rw [if_pos (by omega), q4, e, j3]
          · by_cases z : x < W 64 0
            · obtain ⟨g1, g2, g3⟩ := a3.2.2.1 x x1 z
              exact absurd ⟨by rw [hsc _ g1 g2]; exact g3, aho x x1 z⟩ (q2 _ g1 g2)
            · rw [if_neg z, q1]
end LIST
