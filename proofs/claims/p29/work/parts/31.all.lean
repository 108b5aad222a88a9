/-! the class's store as the law knows it: scores, codes, passing; all that pass are sought -/
section STA
variable {T X V PK : Int → Int} {B AG TK KP h : Int} {S : St}
theorem CI_P (hI : CI S 600) : (1 ≤ S.1 51 0 ∧ S.1 51 0 ≤ 8) ∧ (∀ i : Nat, i < 8 → S.2 i < 8) ∧ (∀ x : Int, 0 ≤ x → x < S.1 51 0 → NmOK S.1 (S.2 x.toNat)) := by
  obtain ⟨-, -, h1, -, -, h2, -, h3, -⟩ := hI
  exact ⟨h1, h2, h3⟩
theorem LI_nm (hI : LI T X V PK B AG TK KP h S) {i : Int} (hi : 0 ≤ i ∧ i < T 0) : nmL T X PK B S.1 (S.2 i.toNat) i := hI.2.1.2.2 i hi.1 hi.2
theorem LI_sz (hI : LI T X V PK B AG TK KP h S) : S.1 51 0 = T 0 := hI.2.1.1
theorem LI_w (hI : LI T X V PK B AG TK KP h S) : S.1 8 0 = V 0 ∧ ∀ k : Int, 0 ≤ k → k < V 0 → S.1 (16 + 0) k = V (1 + k) := hI.2.2.1
theorem LI_sc (hT : TOK T X) (hV : VOK V) (hI : LI T X V PK B AG TK KP h S) {i : Int} (hi : 0 ≤ i ∧ i < T 0) : scO S.1 (S.2 i.toNat) = SC T X V i := by
  obtain ⟨n1, n2, n3, n4, n5, n6, n7⟩ := LI_nm hI hi
  obtain ⟨w1, w2⟩ := LI_w hI
  obtain ⟨s1, s2, s3⟩ := hI.2.1.2.1
  have hn := (nm_sz hT hi).1
  have e : bgv (SG X i) (T (1 + i)).toNat = bgv (S.1 (20 + S.2 i.toNat)) (T (1 + i)).toNat := bgv_congr _ (fun k a b => (n7 k a (by omega)).symm)
  unfold SC scO
  rw [n1, n2, n5, s1, s2, s3, w1, e]
  refine (wor_cs hT.2.2.1 hT.2.2.2.1 hT.2.2.2.2 (by omega) n7 w2 hV.1.1).trans ?_
  rw [bgv_congr (v := S.1 (20 + S.2 i.toNat)) _ (fun k a b => (n7 k a (by omega)).symm)]
theorem LI_cd (hV : VOK V) (hI : LI T X V PK B AG TK KP h S) : cdO S.1 = CD V := by
  obtain ⟨w1, w2⟩ := LI_w hI
  have hv := hV.1
  unfold cdO CD
  rw [w1]
  exact cdv_cs _ (fun k a b => w2 k a (by omega))
theorem LI_ps (hV : VOK V) (hI : LI T X V PK B AG TK KP h S) {i : Int} (hi : 0 ≤ i ∧ i < T 0) : psO S.1 S.2 i ↔ PSs T X V i := by
  obtain ⟨n1, n2, n3, n4, n5, n6, n7⟩ := LI_nm hI hi
  obtain ⟨w1, w2⟩ := LI_w hI
  have hv := hV.1
  unfold psO PSs
  rw [n6, w1, wlb_congr (f2 := Vl V) _ (fun k a b => w2 k a (by omega))]
theorem cwv_cs {s v f g_ : Int → Int} {kd : Int} : ∀ (n m : Nat), (∀ k : Int, 0 ≤ k → k < n → s k = v k) → (∀ k : Int, 0 ≤ k → k < m → f k = g_ k) → cwv s f kd n m = cwv v g_ kd n m
  | 0, 0, _, _ => by rw [cwv, cwv]
  | 0, m + 1, _, _ => by rw [cwv, cwv]
  | n + 1, 0, _, _ => by rw [cwv, cwv]
  | n + 1, m + 1, h1, h2 => by
    rw [cwv, cwv, cwv_cs n (m + 1) (fun k a b => h1 k a (by omega)) h2, cwv_cs n m (fun k a b => h1 k a (by omega)) (fun k a b => h2 k a (by omega)), h1 n (by omega) (by omega), h2 m (by omega) (by omega)]
theorem LI_wy (hT : TOK T X) (hV : VOK V) (hI : LI T X V PK B AG TK KP h S) {i : Int} (hi : 0 ≤ i ∧ i < T 0) : cwv (S.1 (20 + S.2 i.toNat)) (S.1 (16 + 0)) (S.1 3 ((S.2 i.toNat : Nat) : Int)) (S.1 2 ((S.2 i.toNat : Nat) : Int)).toNat (S.1 8 0).toNat = WY T X V i := by
  obtain ⟨n1, n2, n3, n4, n5, n6, n7⟩ := LI_nm hI hi
  obtain ⟨w1, w2⟩ := LI_w hI
  have hv := hV.1
  have hn := (nm_sz hT hi).1
  unfold WY
  rw [n1, n2, w1]
  exact cwv_cs _ _ (fun k a b => n7 k a (by omega)) (fun k a b => w2 k a (by omega))
theorem LI_rg (hI : LI T X V PK B AG TK KP h S) : (0 ≤ AG ∧ AG ≤ 100000) ∧ (∀ i : Int, 0 ≤ i → i < T 0 → 0 ≤ B + i ∧ B + i ≤ 100000) ∧ KR S.1 := by
  have hs := LI_sz hI
  obtain ⟨⟨-, -, -, -, c5, -, -, c8, -, c10, -⟩, -, -, -, ⟨a1, -⟩, -⟩ := id hI
  refine ⟨by rw [← a1]; omega, fun i x y => ?_, c10⟩
  have h1 := (c8 i x (by omega)).2.2.1
  rw [(LI_nm hI ⟨x, y⟩).2.2.1] at h1
  exact h1
/-- all that pass are sought, one behind the other -/
theorem SKAL (hT : TOK T X) (hV : VOK V) (hI : LI T X V PK B AG TK KP h S) : ∀ k : Nat, (k : Int) ≤ T 0 → LKn T X B AG (skA S.1 S.2 k) ∧ KR (skA S.1 S.2 k) ∧ (∀ j : Int, 0 ≤ j → j < k → skA S.1 S.2 k 15 j = SC T X V j) ∧ ((skA S.1 S.2 k 61 0 + skA S.1 S.2 k 62 0 = S.1 61 0 + S.1 62 0 + cq (PSs T X V) k) ∧ (S.1 61 0 ≤ skA S.1 S.2 k 61 0 ∧ skA S.1 S.2 k 61 0 ≤ S.1 61 0 + k) ∧ (S.1 62 0 ≤ skA S.1 S.2 k 62 0 ∧ skA S.1 S.2 k 62 0 ≤ S.1 62 0 + k)) ∧ ∀ (c : Nat) (i : Int), ¬ (10 ≤ c ∧ c < 14) → ¬ c = 15 → ¬ c = 61 → ¬ c = 62 → skA S.1 S.2 k c i = S.1 c i
  | 0, _ => by
    obtain ⟨-, -, hR⟩ := LI_rg hI
    refine ⟨hI.2.2.2.1, hR, fun j a b => absurd b (by omega), ⟨?_, ?_, ?_⟩, fun _ _ _ _ _ _ => rfl⟩
    · rw [cq]; show S.1 61 0 + S.1 62 0 = _; omega
    · show S.1 61 0 ≤ S.1 61 0 ∧ S.1 61 0 ≤ _; omega
    · show S.1 62 0 ≤ S.1 62 0 ∧ S.1 62 0 ≤ _; omega
  | k + 1, hk => by
    obtain ⟨i1, i2, i3, ⟨i4, i5, i6⟩, i7⟩ := SKAL hT hV hI k (by omega)
    obtain ⟨r1, r2, -⟩ := LI_rg hI
    have hx : 0 ≤ (k : Int) ∧ (k : Int) < T 0 := by omega
    have hps := LI_ps hV hI hx
    have hsc := LI_sc hT hV hI hx
    have hcd := LI_cd hV hI
    rw [Int.toNat_natCast] at hsc
    by_cases hp : psO S.1 S.2 (k : Int)
    · rw [skA, if_pos hp, cq_yes (hps.mp hp)]
      obtain ⟨s1, s2, s3, s4, s5⟩ := SKF (F := skA S.1 S.2 k) (j := S.2 k) (sc := scO S.1 (S.2 k)) (code := cdO S.1) (i := k) hT hV i1 i2 (by rw [i7 58 _ (by decide) (by decide) (by decide) (by decide)]; exact hI.2.2.2.2.1.1) r1 (by rw [i7 4 _ (by decide) (by decide) (by decide) (by decide)]; have := (LI_nm hI hx).2.2.1; rw [Int.toNat_natCast] at this; exact this) (r2 _ hx.1 hx.2) hx hsc hcd
      refine ⟨LKn_fr (fun c i a b => ua_nc (by omega)) s2, KR_fr (fun c i a b => ua_nc (by omega)) s3, fun j a b => ?_, ⟨?_, ?_, ?_⟩, fun c i a b d e => ?_⟩
      · rcases Int.lt_or_le j k with w | w
        · rw [ua_ni (by omega), skF_fr (by omega) (by omega) (by omega)]; exact i3 j a w
        · rw [show j = k by omega, ua_eq]; exact s1
      · rw [ua_nc (by decide), ua_nc (by decide)]; omega
      · rw [ua_nc (by decide)]; omega
      · rw [ua_nc (by decide)]; omega
      · rw [ua_nc b, skF_fr a d e]; exact i7 c i a b d e
    · rw [skA, if_neg hp, cq_no (fun z => hp (hps.mpr z))]
      refine ⟨LKn_fr (fun c i a b => ua_nc (by omega)) i1, KR_fr (fun c i a b => ua_nc (by omega)) i2, fun j a b => ?_, ⟨?_, ?_, ?_⟩, fun c i a b d e => ?_⟩
      · rcases Int.lt_or_le j k with w | w
        · rw [ua_ni (by omega)]; exact i3 j a w
        · rw [show j = k by omega, ua_eq]
          by_cases z : SC T X V k = -4
          · exact z.symm
          · exact absurd (hps.mpr (SC_ps hT hV hx z)) hp
      · rw [ua_nc (by decide), ua_nc (by decide)]; omega
      · rw [ua_nc (by decide)]; omega
      · rw [ua_nc (by decide)]; omega
      · rw [ua_nc b]; exact i7 c i a b d e
/-- the frame of calls that only seek -/
theorem LI_sk0 {h2 : Int} {S1 : St} (hI : LI T X V PK B AG TK KP h S) (hP : S1.2 = S.2) (hF : ∀ (c : Nat) (i : Int), c < 65 → ¬ (c = 8 ∧ i = 1) → ¬ c = 17 → ¬ (9 ≤ c ∧ c < 16) → ¬ c = 29 → ¬ (30 ≤ c ∧ c < 46) → ¬ (60 ≤ c ∧ c < 65) → S1.1 c i = S.1 c i) (hx : nxi S1.1) (hw : wdT S1.1) (hR : KR S1.1) (hA : (0 ≤ S1.1 63 0 ∧ S1.1 63 0 ≤ 6) ∧ ∀ i : Int, 0 ≤ i → i < 6 → 0 ≤ S1.1 14 i ∧ S1.1 14 i < 1099511627776) (hL : LKn T X B AG S1.1) (h61 : 0 ≤ S1.1 61 0 ∧ S1.1 61 0 ≤ h2) (h62 : 0 ≤ S1.1 62 0 ∧ S1.1 62 0 ≤ h2) (hh : h2 ≤ 4800) : LI T X V PK B AG TK KP h2 S1 := by
  have f : ∀ (c : Nat) (i : Int), c < 8 ∨ c = 16 ∨ (18 ≤ c ∧ c < 29) ∨ (46 ≤ c ∧ c < 60) → S1.1 c i = S.1 c i := fun c i hc => hF c i (by omega) (by omega) (by omega) (by omega) (by omega) (by omega) (by omega)
  have f20 : ∀ p : Nat, p < 8 → S1.1 (20 + p) = S.1 (20 + p) := fun p hp => funext (fun i => f _ i (by omega))
  obtain ⟨⟨c1, c2, c3, c4, c5, c6, c7, c8, c9, c10, c11, c12⟩, ⟨n1, n2, n3⟩, ⟨w1, w2⟩, k1, a1, -, -⟩ := id hI
  refine ⟨⟨?_, ?_, ?_, ?_, ?_, ?_, ?_, ?_, ?_, hR, hA.2, hx⟩, ⟨?_, ?_, fun i p q => ?_⟩, ⟨?_, fun k p q => ?_⟩, hL, ?_, h61, h62⟩
  · rw [f 50 _ (by decide)]; exact c1
  · rw [f 50 _ (by decide)]; exact fun i a b => by rw [f 0 _ (by decide)]; exact c2 i a b
  · rw [f 51 _ (by decide)]; exact c3
  · rw [f 53 _ (by decide), f 54 _ (by decide), f 55 _ (by decide)]; exact c4
  · rw [f 52 _ (by decide), f 56 _ (by decide), f 57 _ (by decide), f 58 _ (by decide), f 59 _ (by decide)]
    obtain ⟨d1, d2, d3, d4, d5, d6, d7, d8, d9⟩ := c5
    exact ⟨d1, d2, d3, d4, d5, d6, by omega, by omega, hA.1⟩
  · rw [hP]; exact c6
  · rw [hP]; exact c7
  · rw [f 51 _ (by decide), hP]
    exact fun x a b => NmOK_fr (fun c i hc => f c i (by omega)) (c6 _ (by omega)) (c8 x a b)
  · intro w hw4
    by_cases z : w = 1
    · subst z; exact hw
    · rw [hF 8 _ (by omega) (by omega) (by omega) (by omega) (by omega) (by omega) (by omega)]
      refine ⟨(c9 w hw4).1, fun i a b => ?_⟩
      rw [hF (16 + w) i (by omega) (by omega) (by omega) (by omega) (by omega) (by omega) (by omega)]; exact (c9 w hw4).2 i a b
  · rw [f 51 _ (by decide)]; exact n1
  · rw [f 53 _ (by decide), f 54 _ (by decide), f 55 _ (by decide)]; exact n2
  · have h9 := n3 i p q
    rw [hP]
    have hp8 := c6 i.toNat (by omega)
    unfold nmL at h9 ⊢
    rw [f 2 _ (by decide), f 3 _ (by decide), f 4 _ (by decide), f 5 _ (by decide), f 6 _ (by decide), f 7 _ (by decide), f20 _ hp8]
    exact h9
  · rw [hF 8 _ (by omega) (by omega) (by omega) (by omega) (by omega) (by omega) (by omega)]; exact w1
  · rw [hF (16 + 0) k (by omega) (by omega) (by omega) (by omega) (by omega) (by omega) (by omega)]; exact w2 k p q
  · rw [f 58 _ (by decide), f 57 _ (by decide), f 52 _ (by decide), f 56 _ (by decide)]; exact a1
theorem LI_sk {h2 : Int} {S1 : St} (hI : LI T X V PK B AG TK KP h S) (hP : S1.2 = S.2) (hF : ∀ (c : Nat) (i : Int), ¬ (c = 8 ∧ i = 1) → ¬ c = 17 → ¬ (9 ≤ c ∧ c < 16) → ¬ c = 29 → ¬ (30 ≤ c ∧ c < 46) → ¬ (60 ≤ c ∧ c < 65) → S1.1 c i = S.1 c i) (hx : nxi S1.1) (hw : wdT S1.1) (hR : KR S1.1) (hA : (0 ≤ S1.1 63 0 ∧ S1.1 63 0 ≤ 6) ∧ ∀ i : Int, 0 ≤ i → i < 6 → 0 ≤ S1.1 14 i ∧ S1.1 14 i < 1099511627776) (hL : LKn T X B AG S1.1) (h61 : 0 ≤ S1.1 61 0 ∧ S1.1 61 0 ≤ h2) (h62 : 0 ≤ S1.1 62 0 ∧ S1.1 62 0 ≤ h2) (hh : h2 ≤ 4800) : LI T X V PK B AG TK KP h2 S1 :=
  LI_sk0 hI hP (fun c i _ => hF c i) hx hw hR hA hL h61 h62 hh
end STA
