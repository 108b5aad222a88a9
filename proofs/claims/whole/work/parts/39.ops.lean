/-! ways, passes, score, best: both sides -/
section OPS
abbrev RW_ (s f : Int → Int) (kd b r g n m : Int) : Prop := (resS s f kd b r g n m).2.1 = wor s f kd (bgv s n.toNat) b r g n m ∧ ((resS s f kd b r g n m).1 = 0 ↔ wor s f kd (bgv s n.toNat) b r g n m = -4) ∧ (0 < m → ¬ wor s f kd (bgv s n.toNat) b r g n m = -4 → (resS s f kd b r g n m).2.2 = rowd (tlr s f kd (bgv s n.toNat) b r g n m) (m - 1).toNat (wob s f kd (bgv s n.toNat) b r g n m) ∧ (0 ≤ wob s f kd (bgv s n.toNat) b r g n m ∧ wob s f kd (bgv s n.toNat) b r g n m < n) ∧ ¬ (tlr s f kd (bgv s n.toNat) b r g n m (m - 1).toNat (wob s f kd (bgv s n.toNat) b r g n m)).1 = -4)
theorem JW_fr1 {F F2 M M2 : Nat → Int → Int} (hF : ∀ (c : Nat) (i : Int), ¬ (c = 8 ∧ i = 1) → ¬ c = 17 → c = 8 ∨ (16 ≤ c ∧ c < 20) ∨ c = 56 → F2 c i = F c i) (hM : ∀ (c : Nat) (i : Int), (12 ≤ c ∧ c ≤ 14) ∨ c = 53 ∨ c = 54 → M2 c i = M c i) (hw : wdT F2) (h : JW F M) : JW F2 M2 := by
  obtain ⟨h1, h2, h3, h4, h5⟩ := h
  unfold JW
  simp only [hF 8 0 (by omega) (by omega) (by omega), hF 56 0 (by omega) (by omega) (by omega), hM 12 _ (by decide), hM 13 _ (by decide), hM 14 _ (by decide), hM 53 _ (by decide), hM 54 _ (by decide)]
  refine ⟨fun w hw4 => ?_, h2, ⟨h3.1, fun i a b => ?_⟩, h4, fun q hq => ?_⟩
  · by_cases z : w = 1
    · subst z; exact hw
    · rw [hF 8 _ (by omega) (by omega) (by omega)]
      refine ⟨(h1 w hw4).1, fun i a b => ?_⟩
      rw [hF (16 + w) i (by omega) (by omega) (by omega)]; exact (h1 w hw4).2 i a b
  · rw [hF (16 + 0) i (by omega) (by omega) (by omega)]; exact h3.2 i a b
  · rw [hF 8 _ (by omega) (by omega) (by omega)]
    refine ⟨(h5 q hq).1, fun i a b => ?_⟩
    rw [hF (16 + (2 + q)) i (by omega) (by omega) (by omega)]; exact (h5 q hq).2 i a b
variable {S : St} {M : Nat → Int → Int} {n : Int}
/-- a name's row of signs, its letters: the model's are the class's -/
theorem MR (h : JJ S M n) {x : Int} (hx : 0 ≤ x ∧ x < S.1 51 0) {f g : Int → Int} {m : Int} (hm : 0 ≤ m) (hf : ∀ i : Int, 0 ≤ i → i < m → f i = g i) : resS (fun z_ => M 2 (12 * x + z_)) f (M 4 x) (M 7 0) (M 7 1) (M 7 2) (M 3 x) m = resS (S.1 (20 + S.2 x.toNat)) g (S.1 3 ((S.2 x.toNat : Nat) : Int)) (S.1 53 0) (S.1 54 0) (S.1 55 0) (S.1 2 ((S.2 x.toNat : Nat) : Int)) m := by
  obtain ⟨hT, hN, hS, hW, hC, hH, hA, hK, hX⟩ := h
  obtain ⟨r1, r2, r3, r4, r5, r6, r7⟩ := hN.2.2.2.2.2 x hx.1 hx.2
  have o1 := (hN.2.2.2.1 x hx.1 hx.2).1
  rw [r1, r2, hS.2.1, hS.2.2.1, hS.2.2.2]
  exact resS_cs (by omega) (fun k a b => (r7 k a b).1) hf hm
theorem wor_MR (h : JJ S M n) {x : Int} (hx : 0 ≤ x ∧ x < S.1 51 0) {f : Int → Int} {m : Int} : wor (S.1 (20 + S.2 x.toNat)) f (S.1 3 ((S.2 x.toNat : Nat) : Int)) (bgv (S.1 (20 + S.2 x.toNat)) (S.1 2 ((S.2 x.toNat : Nat) : Int)).toNat) (S.1 53 0) (S.1 54 0) (S.1 55 0) (S.1 2 ((S.2 x.toNat : Nat) : Int)) m = wor (S.1 (20 + S.2 x.toNat)) f (S.1 3 ((S.2 x.toNat : Nat) : Int)) (S.1 6 ((S.2 x.toNat : Nat) : Int)) (S.1 53 0) (S.1 54 0) (S.1 55 0) (S.1 2 ((S.2 x.toNat : Nat) : Int)) m := by
  rw [(h.2.1.2.2.2.2.2 x hx.1 hx.2).2.2.2.2.1]
theorem MW (h : JJ S M n) {x : Int} (hx : 0 ≤ x ∧ x < S.1 51 0) {f : Int → Int} {m : Int} (hm : 0 ≤ m) : RW_ (S.1 (20 + S.2 x.toNat)) f (S.1 3 ((S.2 x.toNat : Nat) : Int)) (S.1 53 0) (S.1 54 0) (S.1 55 0) (S.1 2 ((S.2 x.toNat : Nat) : Int)) m := resS_w h.2.2.1.1.1 h.2.2.1.1.2.1 h.2.2.1.1.2.2 (by have := (h.2.1.2.2.2.1 x hx.1 hx.2).1; omega) hm
theorem MSG (h : JJ S M n) {x : Int} (hx : 0 ≤ x ∧ x < S.1 51 0) : ∀ q : Nat, q < (S.1 2 ((S.2 x.toNat : Nat) : Int)).toNat → sgn (S.1 (20 + S.2 x.toNat) q) := fun q hq => ((h.2.1.2.2.2.2.2 x hx.1 hx.2).2.2.2.2.2.2 q (by omega) (by omega)).2
theorem MLT (h : JJ S M n) : ∀ k : Nat, k < (S.1 8 0).toNat → ltr (S.1 (16 + 0) k) := fun k hk => (h.2.2.2.1.1 0 (by decide)).2 k (by omega) (by show (k : Int) < S.1 8 0; omega)
theorem MWD (h : JJ S M n) : (0 ≤ S.1 8 0 ∧ S.1 8 0 ≤ 6) ∧ M 53 0 = S.1 8 0 ∧ ∀ i : Int, 0 ≤ i → i < S.1 8 0 → M 12 i = S.1 (16 + 0) i := ⟨(h.2.2.2.1.1 0 (by decide)).1, h.2.2.2.1.2.2.1.1, h.2.2.2.1.2.2.1.2⟩
/-- whether it passes -/
theorem MPS (h : JJ S M n) {x : Int} (hx : 0 ≤ x ∧ x < S.1 51 0) : bandn (wlb (S.1 (16 + 0)) (S.1 8 0).toNat) (S.1 7 ((S.2 x.toNat : Nat) : Int)) = 0 ↔ psL (fun z_ => M 2 (12 * x + z_)) (M 3 x).toNat (M 12) (M 53 0).toNat = true := by
  have hr := h.2.1.2.2.2.2.2 x hx.1 hx.2
  have hw := MWD h
  rw [hr.2.2.2.2.2.1, pass_iff (MSG h hx) (MLT h), hr.1, hw.2.1, psL_congr (s := fun z_ => M 2 (12 * x + z_)) (v := S.1 (20 + S.2 x.toNat)) (f := M 12) (g := S.1 (16 + 0)) _ (fun q hq => (hr.2.2.2.2.2.2 q (by omega) (by omega)).1) (fun k hk => hw.2.2 k (by omega) (by omega))]
theorem sc_MR (h : JJ S M n) {x : Int} (hx : 0 ≤ x ∧ x < S.1 51 0) : (resS (fun z_ => M 2 (12 * x + z_)) (M 12) (M 4 x) (M 7 0) (M 7 1) (M 7 2) (M 3 x) (M 53 0)).2.1 = scO S.1 (S.2 x.toNat) := by
  have hw := MWD h
  rw [hw.2.1, MR h hx hw.1.1 hw.2.2, (MW h hx hw.1.1).1, wor_MR h hx]
/-- the frame of calls that only seek -/
theorem JJ_sk {S1 : St} {M1 : Nat → Int → Int} (h : JJ S M n) (hn : n < 600) (hP : S1.2 = S.2) (hF : ∀ (c : Nat) (i : Int), ¬ (c = 8 ∧ i = 1) → ¬ c = 17 → ¬ c = 9 → ¬ c = 15 → ¬ (30 ≤ c ∧ c < 46) → ¬ c = 60 → S1.1 c i = S.1 c i) (hx : nxi S1.1) (hw : wdT S1.1) (hM : ∀ (c : Nat) (i : Int), ¬ (20 ≤ c ∧ c ≤ 23) → ¬ c = 62 → ¬ c = 63 → M1 c i = M c i) : JJ S1 M1 (n + 1) := by
  obtain ⟨hT, hN, hS, hW, hC, hH, hA, hK, hX⟩ := h
  refine JJ_of ?_ ?_ ?_ ?_ ?_ ?_ ?_ ?_ hx
  · exact JT_fr (fun c i hc => hF c i (by omega) (by omega) (by omega) (by omega) (by omega) (by omega)) (fun c i hc => hM c i (by omega) (by omega) (by omega)) hT
  · rw [hP]; exact JN_fr (fun c i hc => hF c i (by omega) (by omega) (by omega) (by omega) (by omega) (by omega)) (fun c i hc => hM c i (by omega) (by omega) (by omega)) hN
  · exact JS_fr (fun c i hc => hF c i (by omega) (by omega) (by omega) (by omega) (by omega) (by omega)) (fun c i hc => hM c i (by omega) (by omega) (by omega)) hS
  · exact JW_fr1 (fun c i a b hc => hF c i a b (by omega) (by omega) (by omega) (by omega)) (fun c i hc => hM c i (by omega) (by omega) (by omega)) hw hW
  · exact JC_fr hn (fun c i hc => hF c i (by omega) (by omega) (by omega) (by omega) (by omega) (by omega)) (fun c i hc => hM c i (by omega) (by omega) (by omega)) hC
  · exact JH_fr (fun c i hc => hF c i (by omega) (by omega) (by omega) (by omega) (by omega) (by omega)) (fun c i hc => hM c i (by omega) (by omega) (by omega)) hH
  · exact JA_fr (fun c i hc => hF c i (by omega) (by omega) (by omega) (by omega) (by omega) (by omega)) (fun c i hc => hM c i (by omega) (by omega) (by omega)) hA
  · exact JK_fr (fun c i hc => hF c i (by omega) (by omega) (by omega) (by omega) (by omega) (by omega)) (fun c i hc => hM c i (by omega) (by omega) (by omega)) hK
end OPS
