/-! both sides, group by group: the ranges of the class's numbers, and what the model's are to them -/
def sgn (c : Int) : Prop := (97 ≤ c ∧ c ≤ 122) ∨ (65 ≤ c ∧ c ≤ 90) ∨ c = 95
def JT (F M : Nat → Int → Int) : Prop := (0 ≤ F 50 0 ∧ F 50 0 ≤ 200) ∧ (∀ i : Int, 0 ≤ i → i < F 50 0 → 32 ≤ F 0 i ∧ F 0 i ≤ 126) ∧ M 50 0 = F 50 0 ∧ ∀ i : Int, 0 ≤ i → i < F 50 0 → M 1 i = F 0 i
/-- a name: object p of the class, number j of the model -/
def RN (F M : Nat → Int → Int) (p : Nat) (j : Int) : Prop := M 3 j = F 2 (p : Int) ∧ M 4 j = F 3 (p : Int) ∧ M 5 j = F 4 (p : Int) ∧ M 6 j = F 5 (p : Int) ∧ F 6 (p : Int) = bgv (F (20 + p)) (F 2 (p : Int)).toNat ∧ F 7 (p : Int) = lbv (F (20 + p)) (F 2 (p : Int)).toNat ∧ ∀ k : Int, 0 ≤ k → k < F 2 (p : Int) → M 2 (12 * j + k) = F (20 + p) k ∧ sgn (F (20 + p) k)
def JN (F M : Nat → Int → Int) (P : Nat → Nat) : Prop := (1 ≤ F 51 0 ∧ F 51 0 ≤ 8) ∧ (∀ i : Nat, i < 8 → P i < 8) ∧ (∀ i j : Nat, i < 8 → j < 8 → P i = P j → i = j) ∧ (∀ x : Int, 0 ≤ x → x < F 51 0 → NmOK F (P x.toNat)) ∧ M 51 0 = F 51 0 ∧ ∀ x : Int, 0 ≤ x → x < F 51 0 → RN F M (P x.toNat) x
def JS (F M : Nat → Int → Int) : Prop := ((0 ≤ F 53 0 ∧ F 53 0 ≤ 9) ∧ (0 ≤ F 54 0 ∧ F 54 0 ≤ 9) ∧ (0 ≤ F 55 0 ∧ F 55 0 ≤ 9)) ∧ M 7 0 = F 53 0 ∧ M 7 1 = F 54 0 ∧ M 7 2 = F 55 0
def ltr (c : Int) : Prop := (97 ≤ c ∧ c ≤ 122) ∨ (65 ≤ c ∧ c ≤ 90)
def JW (F M : Nat → Int → Int) : Prop := (∀ w : Nat, w < 4 → (0 ≤ F 8 (w : Int) ∧ F 8 (w : Int) ≤ 6) ∧ ∀ i : Int, 0 ≤ i → i < F 8 (w : Int) → ltr (F (16 + w) i)) ∧ (0 ≤ F 56 0 ∧ F 56 0 ≤ 2) ∧ (M 53 0 = F 8 0 ∧ ∀ i : Int, 0 ≤ i → i < F 8 0 → M 12 i = F (16 + 0) i) ∧ M 54 0 = F 56 0 ∧ ∀ q : Nat, (q : Int) < F 56 0 → M 14 (q : Int) = F 8 ((2 + q : Nat) : Int) ∧ ∀ i : Int, 0 ≤ i → i < F 8 ((2 + q : Nat) : Int) → M 13 (6 * (q : Int) + i) = F (16 + (2 + q)) i
def JC (F M : Nat → Int → Int) (n : Int) : Prop := ((0 ≤ n ∧ n ≤ 600) ∧ (0 ≤ F 52 0 ∧ F 52 0 ≤ 8 * n + 8) ∧ (0 ≤ F 57 0 ∧ F 57 0 ≤ n) ∧ (1 ≤ F 58 0 ∧ F 58 0 ≤ n + 1) ∧ (0 ≤ F 59 0 ∧ F 59 0 < 65521)) ∧ M 55 0 = F 52 0 ∧ M 56 0 = F 57 0 ∧ M 57 0 = F 58 0 ∧ M 60 0 = F 59 0
def JH (F M : Nat → Int → Int) (n : Int) : Prop := ((0 ≤ F 61 0 ∧ F 61 0 ≤ 8 * n) ∧ (0 ≤ F 62 0 ∧ F 62 0 ≤ 8 * n)) ∧ M 58 0 = F 61 0 ∧ M 59 0 = F 62 0
def JA (F M : Nat → Int → Int) : Prop := (0 ≤ F 63 0 ∧ F 63 0 ≤ 6) ∧ (∀ i : Int, 0 ≤ i → i < 6 → 0 ≤ F 14 i ∧ F 14 i < 1099511627776) ∧ M 61 0 = F 63 0 ∧ ∀ i : Int, 0 ≤ i → i < 6 → M 15 i = F 14 i
/-- a place of what is known: empty on both sides, or the same -/
def RK (F M : Nat → Int → Int) (q : Int) : Prop := (F 12 q = 0 ∧ M 16 q = -1 ∧ M 17 q = 0 ∧ M 18 q = 0 ∧ M 19 q = 0) ∨ (1 ≤ F 12 q ∧ 0 ≤ F 10 q ∧ M 16 q = F 10 q ∧ M 17 q = F 11 q ∧ M 18 q = F 12 q ∧ M 19 q = F 13 q)
def JK (F M : Nat → Int → Int) : Prop := ∀ q : Int, 0 ≤ q → q < 32 → ((-100000 ≤ F 10 q ∧ F 10 q ≤ 100000) ∧ (0 ≤ F 11 q ∧ F 11 q < 1099511627776) ∧ (0 ≤ F 12 q ∧ F 12 q ≤ 100000) ∧ (-1000 ≤ F 13 q ∧ F 13 q ≤ 1000)) ∧ RK F M q
def JJ (S : St) (M : Nat → Int → Int) (n : Int) : Prop := JT S.1 M ∧ JN S.1 M S.2 ∧ JS S.1 M ∧ JW S.1 M ∧ JC S.1 M n ∧ JH S.1 M n ∧ JA S.1 M ∧ JK S.1 M ∧ nxi S.1
section FR
variable {F F2 M M2 : Nat → Int → Int}
theorem JT_fr (hF : ∀ (c : Nat) (i : Int), c = 0 ∨ c = 50 → F2 c i = F c i) (hM : ∀ (c : Nat) (i : Int), c = 1 ∨ c = 50 → M2 c i = M c i) (h : JT F M) : JT F2 M2 := by
  unfold JT
  simp only [hF 0 _ (by decide), hF 50 _ (by decide), hM 1 _ (by decide), hM 50 _ (by decide)]
  exact h
theorem RN_fr {p : Nat} {j : Int} (hF : ∀ (c : Nat) (i : Int), (2 ≤ c ∧ c ≤ 7) ∨ c = 20 + p → F2 c i = F c i) (hM : ∀ (c : Nat) (i : Int), 2 ≤ c ∧ c ≤ 6 → M2 c i = M c i) (h : RN F M p j) : RN F2 M2 p j := by
  unfold RN
  have e : F2 (20 + p) = F (20 + p) := funext (fun i => hF _ i (Or.inr rfl))
  simp only [hF 2 _ (by omega), hF 3 _ (by omega), hF 4 _ (by omega), hF 5 _ (by omega), hF 6 _ (by omega), hF 7 _ (by omega), e, hM 2 _ (by omega), hM 3 _ (by omega), hM 4 _ (by omega), hM 5 _ (by omega), hM 6 _ (by omega)]
  exact h
theorem JN_fr {P : Nat → Nat} (hF : ∀ (c : Nat) (i : Int), (2 ≤ c ∧ c ≤ 7) ∨ (20 ≤ c ∧ c < 28) ∨ c = 51 → F2 c i = F c i) (hM : ∀ (c : Nat) (i : Int), (2 ≤ c ∧ c ≤ 6) ∨ c = 51 → M2 c i = M c i) (h : JN F M P) : JN F2 M2 P := by
  obtain ⟨h1, h2, h3, h4, h5, h6⟩ := h
  unfold JN
  rw [hF 51 0 (by omega), hM 51 0 (by omega)]
  refine ⟨h1, h2, h3, fun x a b => ?_, h5, fun x a b => ?_⟩
  · exact NmOK_fr (fun c i hc => hF c i (by omega)) (h2 _ (by omega)) (h4 x a b)
  · exact RN_fr (fun c i hc => hF c i (by have := h2 x.toNat (by omega); omega)) (fun c i hc => hM c i (by omega)) (h6 x a b)
theorem JS_fr (hF : ∀ (c : Nat) (i : Int), 53 ≤ c ∧ c ≤ 55 → F2 c i = F c i) (hM : ∀ (c : Nat) (i : Int), c = 7 → M2 c i = M c i) (h : JS F M) : JS F2 M2 := by
  unfold JS
  simp only [hF 53 _ (by decide), hF 54 _ (by decide), hF 55 _ (by decide), hM 7 _ rfl]
  exact h
theorem JW_fr (hF : ∀ (c : Nat) (i : Int), c = 8 ∨ (16 ≤ c ∧ c < 20) ∨ c = 56 → F2 c i = F c i) (hM : ∀ (c : Nat) (i : Int), (12 ≤ c ∧ c ≤ 14) ∨ c = 53 ∨ c = 54 → M2 c i = M c i) (h : JW F M) : JW F2 M2 := by
  obtain ⟨h1, h2, h3, h4, h5⟩ := h
  unfold JW
  simp only [hF 8 _ (by decide), hF 56 _ (by decide), hF (16 + 0) _ (by decide), hM 12 _ (by decide), hM 13 _ (by decide), hM 14 _ (by decide), hM 53 _ (by decide), hM 54 _ (by decide)]
  refine ⟨fun w hw => ⟨(h1 w hw).1, fun i a b => ?_⟩, h2, h3, h4, fun q hq => ⟨(h5 q hq).1, fun i a b => ?_⟩⟩
  · rw [hF (16 + w) i (by omega)]; exact (h1 w hw).2 i a b
  · rw [hF (16 + (2 + q)) i (by omega)]; exact (h5 q hq).2 i a b
theorem JC_fr {n : Int} (hn : n < 600) (hF : ∀ (c : Nat) (i : Int), c = 52 ∨ (57 ≤ c ∧ c ≤ 59) → F2 c i = F c i) (hM : ∀ (c : Nat) (i : Int), (55 ≤ c ∧ c ≤ 57) ∨ c = 60 → M2 c i = M c i) (h : JC F M n) : JC F2 M2 (n + 1) := by
  unfold JC at *
  rw [hF 52 _ (by decide), hF 57 _ (by decide), hF 58 _ (by decide), hF 59 _ (by decide), hM 55 _ (by decide), hM 56 _ (by decide), hM 57 _ (by decide), hM 60 _ (by decide)]
  omega
theorem JH_fr {n : Int} (hF : ∀ (c : Nat) (i : Int), c = 61 ∨ c = 62 → F2 c i = F c i) (hM : ∀ (c : Nat) (i : Int), c = 58 ∨ c = 59 → M2 c i = M c i) (h : JH F M n) : JH F2 M2 (n + 1) := by
  unfold JH at *
  rw [hF 61 _ (by decide), hF 62 _ (by decide), hM 58 _ (by decide), hM 59 _ (by decide)]
  omega
theorem JA_fr (hF : ∀ (c : Nat) (i : Int), c = 63 ∨ c = 14 → F2 c i = F c i) (hM : ∀ (c : Nat) (i : Int), c = 61 ∨ c = 15 → M2 c i = M c i) (h : JA F M) : JA F2 M2 := by
  unfold JA
  simp only [hF 63 _ (by decide), hF 14 _ (by decide), hM 61 _ (by decide), hM 15 _ (by decide)]
  exact h
theorem JK_fr (hF : ∀ (c : Nat) (i : Int), 10 ≤ c ∧ c ≤ 13 → F2 c i = F c i) (hM : ∀ (c : Nat) (i : Int), 16 ≤ c ∧ c ≤ 19 → M2 c i = M c i) (h : JK F M) : JK F2 M2 := by
  unfold JK RK
  simp only [hF 10 _ (by decide), hF 11 _ (by decide), hF 12 _ (by decide), hF 13 _ (by decide), hM 16 _ (by decide), hM 17 _ (by decide), hM 18 _ (by decide), hM 19 _ (by decide)]
  exact h
theorem nxi_fr (hF : ∀ (c : Nat) (i : Int), 40 ≤ c ∧ c < 46 → F2 c i = F c i) (h : nxi F) : nxi F2 := fun k q a b d => by rw [hF _ _ (by omega)]; exact h k q a b d
end FR
theorem CI_J {S : St} {M : Nat → Int → Int} {n : Int} (h : JJ S M n) : CI S n := by
  obtain ⟨⟨t1, t2, -⟩, ⟨n1, n2, n3, n4, -⟩, ⟨s1, -⟩, ⟨w1, w2, -⟩, ⟨⟨c1, c2, c3, c4, c5⟩, -⟩, ⟨⟨h1, h2⟩, -⟩, ⟨a1, a2, -⟩, k, x⟩ := h
  exact ⟨t1, t2, n1, s1, ⟨c1, c2, w2, c3, c4, c5, h1, h2, a1⟩, n2, n3, n4, w1, fun q a b => (k q a b).1, a2, x⟩
theorem MI_J {S : St} {M : Nat → Int → Int} {n : Int} (h : JJ S M n) : MI M := by
  obtain ⟨⟨t1, t2, t3, t4⟩, ⟨n1, n2, n3, n4, n5, n6⟩, ⟨s1, s2⟩, ⟨w1, w2, w3, w4, w5⟩, ⟨⟨c1, c2, c3, c4, c5⟩, c6⟩, ⟨⟨h1, h2⟩, h3⟩, ⟨a1, a2, a3, a4⟩, k, x⟩ := h
  have w10 := w1 0 (by decide)
  refine ⟨by rw [t3]; exact t1, fun i a b => ?_, by rw [n5]; exact n1, fun j a b => ?_, fun i a b => ?_, ⟨by rw [w3.1]; exact w10.1, fun i a b => ?_⟩, ⟨by rw [w4]; exact w2, fun q a b => ?_⟩, by omega, fun i a b => by rw [a4 i a b]; exact a2 i a b, fun q a b => ?_⟩
  · rw [t3] at b; rw [t4 i a b]; exact t2 i a b
  · rw [n5] at b
    obtain ⟨r1, r2, r3, r4, r5, r6, r7⟩ := n6 j a b
    obtain ⟨o1, o2, o3, o4, o5, o6, o7⟩ := n4 j a b
    unfold NM
    rw [r1, r2, r3, r4]
    refine ⟨o1, o2, o3, o4, fun q q1 q2 => ?_⟩
    obtain ⟨e1, e2⟩ := r7 q q1 q2
    rw [e1]; exact e2
  · have e : i = 0 ∨ i = 1 ∨ i = 2 := by omega
    rcases e with e | e | e <;> subst e <;> omega
  · rw [w3.1] at b; rw [w3.2 i a b]; exact w10.2 i a b
  · rw [w4] at b
    have w5q := w5 q.toNat (by omega)
    have w1q := w1 (2 + q.toNat) (by omega)
    rw [show ((q.toNat : Nat) : Int) = q by omega] at w5q
    rw [w5q.1]
    refine ⟨w1q.1, fun i i1 i2 => ?_⟩
    rw [w5q.2 i i1 i2]; exact w1q.2 i i1 i2
  · obtain ⟨⟨k1, k2, k3, k4⟩, k5⟩ := k q a b
    unfold RK at k5
    omega
theorem JJ_of {S1 : St} {M1 : Nat → Int → Int} {n : Int} (a : JT S1.1 M1) (b : JN S1.1 M1 S1.2) (c : JS S1.1 M1) (d : JW S1.1 M1) (e : JC S1.1 M1 (n + 1)) (f : JH S1.1 M1 (n + 1)) (g : JA S1.1 M1) (h : JK S1.1 M1) (i : nxi S1.1) : JJ S1 M1 (n + 1) := ⟨a, b, c, d, e, f, g, h, i⟩
