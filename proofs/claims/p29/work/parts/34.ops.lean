/-! picked; kept; the shortest word -/
section OPL3
variable {T X V PK : Int → Int} {B AG TK KP h r : Int} {S S1 : St}
theorem op_pick {PK2 : Int → Int} {x : Int} (hI : LI T X V PK B AG TK KP h S) (hx : 0 ≤ x ∧ x < T 0) (hTK : TK + 1 ≤ 600) (hp : PK2 x = TK + 1 ∧ ∀ j : Int, ¬ j = x → PK2 j = PK j) (q : po_X9_pick S x r S1) : r = TK + 1 ∧ LI T X V PK2 B AG (TK + 1) KP h S1 := by
  have hs := LI_sz hI
  obtain ⟨a, -, -⟩ | ⟨-, q1, q2⟩ := q
  · exact absurd ⟨hx.1, by omega⟩ a
  · obtain ⟨⟨c1, c2, c3, c4, c5, c6, c7, c8, c9, c10, c11, c12⟩, ⟨n1, n2, n3⟩, ⟨w1, w2⟩, k1, a1, h1, h2⟩ := id hI
    have hT8 : T 0 ≤ 8 := by omega
    have f : ∀ (c : Nat) (i : Int), ¬ c = 5 → ¬ c = 57 → S1.1 c i = S.1 c i := fun c i a b => by rw [q2]; dsimp only; rw [ua_nc a, us_nc b]
    have e57 : S1.1 57 0 = TK + 1 := by rw [q2]; dsimp only; rw [ua_nc (by decide), us_eq, a1.2.1]
    have e5 : ∀ j : Int, 0 ≤ j → j < T 0 → S1.1 5 ((S.2 j.toNat : Nat) : Int) = PK2 j := fun j a b => by
      rw [q2]; dsimp only
      rw [ua_at]
      by_cases z : j = x
      · subst z; rw [if_pos ⟨rfl, rfl⟩, a1.2.1, hp.1]
      · rw [if_neg (fun w => z (by have := c7 j.toNat x.toNat (by omega) (by omega) (by omega); omega)), us_nc (by decide), hp.2 j z]
        exact (n3 j a b).2.2.2.1
    have eP : S1.2 = S.2 := by rw [q2]
    have f20 : ∀ p : Nat, p < 8 → S1.1 (20 + p) = S.1 (20 + p) := fun p hp => funext (fun i => f _ i (by omega) (by omega))
    have hpk : ∀ j : Int, 0 ≤ j → j < T 0 → 0 ≤ PK2 j ∧ PK2 j ≤ 100000 := fun j a b => by
      by_cases z : j = x
      · rw [z, hp.1]; obtain ⟨d1, d2, d3, d4, d5, d6, d7, d8, d9⟩ := c5; omega
      · rw [hp.2 j z, ← (n3 j a b).2.2.2.1]; exact (c8 j a (by omega)).2.2.2.1
    refine ⟨by rw [q1, a1.2.1], ⟨?_, ?_, ?_, ?_, ?_, ?_, ?_, ?_, ?_, KR_fr (fun c i _ _ => f c i (by omega) (by omega)) c10, ?_, nxi_fr (fun c i hc => f c i (by omega) (by omega)) c12⟩, ⟨?_, ?_, fun i p q => ?_⟩, ⟨?_, fun k p q => ?_⟩, LKn_fr (fun c i _ _ => f c i (by omega) (by omega)) k1, ⟨?_, e57, ?_, ?_⟩, ?_, ?_⟩
    · rw [f 50 _ (by decide) (by decide)]; exact c1
    · rw [f 50 _ (by decide) (by decide)]; exact fun i a b => by rw [f 0 _ (by decide) (by decide)]; exact c2 i a b
    · rw [f 51 _ (by decide) (by decide)]; exact c3
    · rw [f 53 _ (by decide) (by decide), f 54 _ (by decide) (by decide), f 55 _ (by decide) (by decide)]; exact c4
    · rw [f 52 _ (by decide) (by decide), f 56 _ (by decide) (by decide), e57, f 58 _ (by decide) (by decide), f 59 _ (by decide) (by decide), f 61 _ (by decide) (by decide), f 62 _ (by decide) (by decide), f 63 _ (by decide) (by decide)]
      obtain ⟨d1, d2, d3, d4, d5, d6, d7, d8, d9⟩ := c5
      exact ⟨d1, d2, d3, by omega, d5, d6, d7, d8, d9⟩
    · rw [eP]; exact c6
    · rw [eP]; exact c7
    · rw [f 51 _ (by decide) (by decide), eP]
      intro y a b
      have h8 := c8 y a b
      unfold NmOK at h8 ⊢
      rw [f 2 _ (by decide) (by decide), f 3 _ (by decide) (by decide), f 4 _ (by decide) (by decide), e5 y a (by omega), f 6 _ (by decide) (by decide), f 7 _ (by decide) (by decide), f20 _ (c6 _ (by omega))]
      exact ⟨h8.1, h8.2.1, h8.2.2.1, hpk y a (by omega), h8.2.2.2.2⟩
    · intro w hw4
      rw [f 8 _ (by decide) (by decide)]
      refine ⟨(c9 w hw4).1, fun i a b => ?_⟩
      rw [f (16 + w) i (by omega) (by omega)]; exact (c9 w hw4).2 i a b
    · intro i a b; rw [f 14 i (by decide) (by decide)]; exact c11 i a b
    · rw [f 51 _ (by decide) (by decide)]; exact n1
    · rw [f 53 _ (by decide) (by decide), f 54 _ (by decide) (by decide), f 55 _ (by decide) (by decide)]; exact n2
    · have h9 := n3 i p q
      rw [eP]
      unfold nmL at h9 ⊢
      rw [f 2 _ (by decide) (by decide), f 3 _ (by decide) (by decide), f 4 _ (by decide) (by decide), e5 i p q, f 6 _ (by decide) (by decide), f 7 _ (by decide) (by decide), f20 _ (c6 _ (by omega))]
      exact ⟨h9.1, h9.2.1, h9.2.2.1, rfl, h9.2.2.2.2⟩
    · rw [f 8 _ (by decide) (by decide)]; exact w1
    · rw [f (16 + 0) _ (by decide) (by decide)]; exact w2 k p q
    · rw [f 58 _ (by decide) (by decide)]; exact a1.1
    · rw [f 52 _ (by decide) (by decide)]; exact a1.2.2.1
    · rw [f 56 _ (by decide) (by decide)]; exact a1.2.2.2
    · rw [f 61 _ (by decide) (by decide)]; exact h1
    · rw [f 62 _ (by decide) (by decide)]; exact h2
/-- the word that is kept -/
def KW (K : Int → Int) (S : St) : Prop := S.1 8 2 = K 0 ∧ ∀ k : Int, 0 ≤ k → k < K 0 → S.1 18 k = K (1 + k)
theorem KW_fr {K : Int → Int} (hF : ∀ (c : Nat) (i : Int), (c = 8 ∧ i = 2) ∨ c = 18 → S1.1 c i = S.1 c i) (k : KW K S) : KW K S1 := ⟨by rw [hF 8 2 (Or.inl ⟨rfl, rfl⟩)]; exact k.1, fun i a b => by rw [hF 18 i (Or.inr rfl)]; exact k.2 i a b⟩
/-- kept words and how many they are have changed -/
theorem LI_kept {V2 : Int → Int} {KP2 : Int} (hI : LI T X V PK B AG TK KP h S) (hP : S1.2 = S.2) (hF : ∀ (c : Nat) (i : Int), ¬ c = 8 → ¬ (16 ≤ c ∧ c < 20) → ¬ c = 56 → S1.1 c i = S.1 c i) (hw : ∀ w : Nat, w < 4 → (0 ≤ S1.1 8 (w : Int) ∧ S1.1 8 (w : Int) ≤ 6) ∧ ∀ i : Int, 0 ≤ i → i < S1.1 8 (w : Int) → ((97 ≤ S1.1 (16 + w) i ∧ S1.1 (16 + w) i ≤ 122) ∨ (65 ≤ S1.1 (16 + w) i ∧ S1.1 (16 + w) i ≤ 90))) (hk : S1.1 56 0 = KP2) (hk2 : 0 ≤ KP2 ∧ KP2 ≤ 2) (hV : LWd V2 S1) : LI T X V2 PK B AG TK KP2 h S1 := by
  have f : ∀ (c : Nat) (i : Int), c < 8 ∨ (8 < c ∧ c < 16) ∨ (20 ≤ c ∧ c < 56) ∨ 56 < c → S1.1 c i = S.1 c i := fun c i a => hF c i (by omega) (by omega) (by omega)
  have f20 : ∀ p : Nat, p < 8 → S1.1 (20 + p) = S.1 (20 + p) := fun p hp => funext (fun i => f _ i (by omega))
  obtain ⟨⟨c1, c2, c3, c4, c5, c6, c7, c8, c9, c10, c11, c12⟩, ⟨n1, n2, n3⟩, -, k1, a1, h1, h2⟩ := id hI
  refine ⟨⟨?_, ?_, ?_, ?_, ?_, ?_, ?_, ?_, hw, KR_fr (fun c i _ _ => f c i (by omega)) c10, ?_, nxi_fr (fun c i hc => f c i (by omega)) c12⟩, ⟨?_, ?_, fun i p q => ?_⟩, hV, LKn_fr (fun c i _ _ => f c i (by omega)) k1, ⟨?_, ?_, ?_, hk⟩, ?_, ?_⟩
  · rw [f 50 _ (by decide)]; exact c1
  · rw [f 50 _ (by decide)]; exact fun i a b => by rw [f 0 _ (by decide)]; exact c2 i a b
  · rw [f 51 _ (by decide)]; exact c3
  · rw [f 53 _ (by decide), f 54 _ (by decide), f 55 _ (by decide)]; exact c4
  · rw [f 52 _ (by decide), hk, f 57 _ (by decide), f 58 _ (by decide), f 59 _ (by decide), f 61 _ (by decide), f 62 _ (by decide), f 63 _ (by decide)]
    obtain ⟨d1, d2, d3, d4, d5, d6, d7, d8, d9⟩ := c5
    exact ⟨d1, d2, hk2, d4, d5, d6, d7, d8, d9⟩
  · rw [hP]; exact c6
  · rw [hP]; exact c7
  · rw [f 51 _ (by decide), hP]
    exact fun x a b => NmOK_fr (fun c i hc => f c i (by omega)) (c6 _ (by omega)) (c8 x a b)
  · intro i a b; rw [f 14 i (by decide)]; exact c11 i a b
  · rw [f 51 _ (by decide)]; exact n1
  · rw [f 53 _ (by decide), f 54 _ (by decide), f 55 _ (by decide)]; exact n2
  · have h9 := n3 i p q
    rw [hP]
    have hp8 := c6 i.toNat (by omega)
    unfold nmL at h9 ⊢
    rw [f 2 _ (by decide), f 3 _ (by decide), f 4 _ (by decide), f 5 _ (by decide), f 6 _ (by decide), f 7 _ (by decide), f20 _ hp8]
    exact h9
  · rw [f 58 _ (by decide)]; exact a1.1
  · rw [f 57 _ (by decide)]; exact a1.2.1
  · rw [f 52 _ (by decide)]; exact a1.2.2.1
  · rw [f 61 _ (by decide)]; exact h1
  · rw [f 62 _ (by decide)]; exact h2
theorem op_keep (hV : VOK V) (hI : LI T X V PK B AG TK 0 h S) (q : po_X9_keep S r S1) : r = 1 ∧ LI T X V PK B AG TK 1 h S1 ∧ KW V S1 := by
  obtain ⟨w1, w2⟩ := LI_w hI
  have e56 : S.1 56 0 = 0 := hI.2.2.2.2.1.2.2.2
  have hv := hV.1
  obtain ⟨a, -, -⟩ | ⟨-, q1, V1, ⟨v1, v2, v3⟩, q2⟩ := q
  · omega
  · rw [e56] at q1 q2 v1 v2 v3
    have v1' : V1 8 2 = S.1 8 0 := v1
    have v2' : ∀ i : Int, 0 ≤ i → i < S.1 8 0 → V1 18 i = S.1 (16 + 0) i := v2
    have v3' : ∀ (c : Nat) (i : Int), ¬ c = 18 → ¬ (c = 8 ∧ i = 2) → V1 c i = S.1 c i := fun c i a b => v3 c i a b
    have f : ∀ (c : Nat) (i : Int), ¬ c = 56 → S1.1 c i = V1 c i := fun c i a => by rw [q2]; dsimp only; rw [us_nc a]
    refine ⟨by omega, LI_kept hI (by rw [q2]) (fun c i a b d => (f c i d).trans (v3' c i (by omega) (by omega))) (fun w hw => ?_) (by rw [q2]; dsimp only; rw [us_eq]; rfl) (by decide) ⟨?_, fun k a b => ?_⟩, ⟨?_, fun k a b => ?_⟩⟩
    · have h9 := hI.1.2.2.2.2.2.2.2.2.1
      by_cases z : w = 2
      · subst z
        rw [f 8 _ (by decide)]
        have e : V1 8 ((2 : Nat) : Int) = S.1 8 0 := v1
        rw [e]
        refine ⟨by rw [w1]; exact hv, fun i a b => ?_⟩
        rw [f (16 + 2) _ (by decide), show V1 (16 + 2) i = S.1 (16 + 0) i from v2 i a b]
        exact (h9 0 (by decide)).2 i a b
      · rw [f 8 _ (by decide), v3' 8 _ (by decide) (by omega)]
        refine ⟨(h9 w hw).1, fun i a b => ?_⟩
        rw [f (16 + w) _ (by omega), v3' (16 + w) _ (by omega) (by omega)]
        exact (h9 w hw).2 i a b
    · rw [f 8 _ (by decide), v3' 8 _ (by decide) (by decide)]; exact w1
    · rw [f (16 + 0) _ (by decide), v3' (16 + 0) _ (by decide) (by omega)]; exact w2 k a b
    · rw [f 8 _ (by decide), v1']; exact w1
    · rw [f 18 _ (by decide), v2' k a (by omega)]; exact w2 k a b
theorem op_back {K : Int → Int} (hK : VOK K) (hI : LI T X V PK B AG TK 1 h S) (hk : KW K S) (q : po_X9_back S r S1) : r = 0 ∧ LI T X K PK B AG TK 0 h S1 := by
  have e56 : S.1 56 0 = 1 := hI.2.2.2.2.1.2.2.2
  have hv := hK.1
  obtain ⟨k1, k2⟩ := hk
  obtain ⟨a, -, -⟩ | ⟨-, q1, V1, ⟨v1, v2, v3⟩, q2⟩ := q
  · omega
  · rw [e56] at q1 v1 v2 v3
    have b8 : ∀ i : Int, us S.1 56 (1 - 1) 8 i = S.1 8 i := fun i => us_nc (by decide)
    have v1' : V1 8 0 = S.1 8 2 := v1.trans (b8 2)
    have v2' : ∀ i : Int, 0 ≤ i → i < S.1 8 2 → V1 16 i = S.1 18 i := fun i a b => (v2 i a (by show i < us S.1 56 (1 - 1) 8 2; rw [b8]; exact b)).trans (us_nc (by decide))
    have v3' : ∀ (c : Nat) (i : Int), ¬ c = 16 → ¬ (c = 8 ∧ i = 0) → V1 c i = us S.1 56 (1 - 1) c i := fun c i a b => v3 c i a b
    have f : ∀ (c : Nat) (i : Int), ¬ c = 56 → ¬ c = 16 → ¬ (c = 8 ∧ i = 0) → S1.1 c i = S.1 c i := fun c i a b d => by rw [q2]; dsimp only; rw [v3' c i b d, us_nc a]
    have e8 : S1.1 8 0 = K 0 := by rw [q2]; dsimp only; rw [v1', k1]
    have e16 : ∀ i : Int, 0 ≤ i → i < K 0 → S1.1 16 i = K (1 + i) := fun i a b => by rw [q2]; dsimp only; rw [v2' i a (by omega)]; exact k2 i a b
    refine ⟨by omega, LI_kept hI (by rw [q2]) (fun c i a b d => f c i d (by omega) (by omega)) (fun w hw => ?_) (by rw [q2]; dsimp only; rw [v3' 56 0 (by decide) (by decide), us_eq]; rfl) (by decide) ⟨e8, e16⟩⟩
    have h9 := hI.1.2.2.2.2.2.2.2.2.1
    by_cases z : w = 0
    · subst z
      have e : S1.1 8 ((0 : Nat) : Int) = K 0 := e8
      rw [e]
      refine ⟨hv, fun i a b => ?_⟩
      have e2 : S1.1 (16 + 0) i = K (1 + i) := e16 i a b
      rw [e2]; exact hK.2 i a b
    · rw [f 8 _ (by decide) (by decide) (by omega)]
      refine ⟨(h9 w hw).1, fun i a b => ?_⟩
      rw [f (16 + w) _ (by omega) (by omega) (by omega)]
      exact (h9 w hw).2 i a b
theorem op_back0 (hI : LI T X V PK B AG TK 0 h S) (q : po_X9_back S r S1) : r = -2 ∧ S1 = S := by
  have e56 : S.1 56 0 = 0 := hI.2.2.2.2.1.2.2.2
  obtain ⟨-, q1, q2⟩ | ⟨a, -⟩ := q
  · exact ⟨q1, q2⟩
  · omega
/-- a word of one or two small letters -/
def VB (a b : Int) : Int → Int := fun j => if j = 0 then tm b else if j = 1 then 96 + a else 96 + b
theorem VB_ok {a b : Int} (ha : 1 ≤ a ∧ a ≤ 26) (hb : 0 ≤ b ∧ b ≤ 26) : VOK (VB a b) := by
  have e0 : VB a b 0 = tm b := rfl
  have ht : tm b = 1 ∨ (tm b = 2 ∧ 0 < b) := by unfold tm; split <;> omega
  refine ⟨by omega, fun k k0 k1 => ?_⟩
  unfold VB ltr
  rw [if_neg (by omega)]
  split <;> omega
def FB (T X PK : Int → Int) (n a b : Int) : Prop := ¬ SC T X (VB a b) n = -4 ∧ ∀ i : Int, 0 ≤ i → i < T 0 → ¬ i = n → ¬ SC T X (VB a b) i = -4 → ¬ ahL T X (VB a b) PK i n
theorem VB_tf {a b k : Int} (h0 : 0 ≤ k) (h1 : k < tm b) : tf a b k = VB a b (1 + k) := by
  have ht : tm b ≤ 2 := by unfold tm; split <;> omega
  unfold tf VB
  rcases (show k = 0 ∨ k = 1 by omega) with rfl | rfl
  · rw [if_pos rfl, if_neg (by omega), if_pos (by omega)]; omega
  · rw [if_neg (by omega), if_neg (by omega), if_neg (by omega)]; omega
theorem fbP_FB (hT : TOK T X) (hI : LI T X V PK B AG TK KP h S) {n a b : Int} (ha : 1 ≤ a ∧ a ≤ 26) (hb : 0 ≤ b ∧ b ≤ 26) (hn : 0 ≤ n ∧ n < T 0) (q : fbP S.1 S.2 (S.1 51 0) n a b) : FB T X PK n a b := by
  have hs := LI_sz hI
  have hV := VB_ok ha hb
  have e : ∀ i : Int, 0 ≤ i → i < T 0 → scT S.1 S.2 a b i = SC T X (VB a b) i := fun i i0 i1 => by
    obtain ⟨n1, n2, n3, n4, n5, n6, n7⟩ := LI_nm hI ⟨i0, i1⟩
    obtain ⟨s1, s2, s3⟩ := hI.2.1.2.1
    have hn := (nm_sz hT ⟨i0, i1⟩).1
    have e : bgv (SG X i) (T (1 + i)).toNat = bgv (S.1 (20 + S.2 i.toNat)) (T (1 + i)).toNat := bgv_congr _ (fun k a b => (n7 k a (by omega)).symm)
    have e0 : VB a b 0 = tm b := rfl
    unfold SC scT
    rw [n1, n2, n5, s1, s2, s3, e0, e]
    refine (wor_cs hT.2.2.1 hT.2.2.2.1 hT.2.2.2.2 (by omega) n7 (fun k k0 k1 => VB_tf k0 k1) (by rw [← e0]; exact hV.1.1)).trans ?_
    rw [bgv_congr (v := S.1 (20 + S.2 i.toNat)) _ (fun k a b => (n7 k a (by omega)).symm)]
  obtain ⟨-, q2, q3⟩ := q
  rw [hs] at q3
  rw [e n hn.1 hn.2] at q2 q3
  refine ⟨q2, fun i i0 i1 i2 i3 => ?_⟩
  have q4 := q3 i i0 i1 i2 (by rw [e i i0 i1]; exact i3)
  rw [e i i0 i1, (LI_nm hI ⟨i0, i1⟩).2.2.2.1, (LI_nm hI hn).2.2.2.1, (LI_nm hI ⟨i0, i1⟩).1, (LI_nm hI hn).1] at q4
  exact q4
theorem op_brief {n : Int} (hT : TOK T X) (hI : LI T X V PK B AG TK KP h S) (hh : h ≤ 4800) (hn : 0 ≤ n ∧ n < T 0) (q : po_X9_brief S n r S1) : (r = -4 ∨ ∃ a b : Int, (1 ≤ a ∧ a ≤ 26) ∧ (0 ≤ b ∧ b ≤ 26) ∧ r = 27 * a + b ∧ FB T X PK n a b) ∧ LI T X V PK B AG TK KP h S1 ∧ ∀ (c : Nat) (i : Int), (c = 8 ∧ i = 2) ∨ c = 18 → S1.1 c i = S.1 c i := by
  have hs := LI_sz hI
  have ha := LI_ask hI
  obtain ⟨q1, q2, q3, q4, q5⟩ := q
  refine ⟨?_, ?_, fun c i hc => q2 c i (by omega) (by omega) (by omega) (by omega) (by omega)⟩
  · rcases q5 with ⟨a, -⟩ | ⟨-, q⟩
    · exact absurd ⟨hn.1, by omega⟩ a
    · rcases q with ⟨a, a1, a2, a3, -⟩ | ⟨a, b, a1, b1, a2, a3, -⟩ | ⟨a, -⟩
      · exact Or.inr ⟨a, 0, a1, by omega, by omega, fbP_FB hT hI a1 (by omega) hn a3⟩
      · exact Or.inr ⟨a, b, a1, by omega, a2, fbP_FB hT hI a1 (by omega) hn a3⟩
      · exact Or.inl a
  · refine LI_sk hI q1 (fun c i g1 g2 g3 g4 g5 g6 => q2 c i g1 g2 (by omega) g5 (by omega)) q3 q4 (KR_fr (fun c i _ _ => q2 c i (by omega) (by omega) (by omega) (by omega) (by omega)) (LI_rg hI).2.2) ?_ (LKn_fr (fun c i _ _ => q2 c i (by omega) (by omega) (by omega) (by omega) (by omega)) hI.2.2.2.1) ?_ ?_ hh
    · rw [q2 63 0 (by decide) (by decide) (by decide) (by decide) (by decide)]
      exact ⟨ha.1, fun i a b => by rw [q2 14 i (by omega) (by decide) (by decide) (by decide) (by decide)]; exact ha.2 i a b⟩
    · rw [q2 61 0 (by decide) (by decide) (by decide) (by decide) (by decide)]; exact hI.2.2.2.2.2.1
    · rw [q2 62 0 (by decide) (by decide) (by decide) (by decide) (by decide)]; exact hI.2.2.2.2.2.2
/-- the first of the list by that word -/
theorem RKL_fst {g : Int → Int} {m n a b : Int} (hn : 0 ≤ n ∧ n < T 0) (hk : RKL T X (VB a b) PK g m) (hf : FB T X PK n a b) : 0 < m ∧ g 0 = n := by
  obtain ⟨i, i1, i2⟩ := hk.2.2.2 n hn.1 hn.2 hf.1
  rcases Int.lt_or_le 0 i with z | z
  · exfalso
    obtain ⟨p1, p2⟩ := hk.2.1 0 (by omega) (by omega)
    have a1 := hk.2.2.1 0 i (by omega) z i1.2
    have a2 := hf.2 (g 0) p1.1 p1.2 (fun e => by have := RKL_inj hk ⟨Int.le_refl 0, by omega⟩ i1 (by rw [e, i2]); omega) p2
    rw [i2] at a1
    exact a2 a1
  · exact ⟨by omega, by rw [← i2, show i = 0 by omega]⟩
/-- the score, the list, rest on the word's letters alone -/
theorem SC_vv {V2 : Int → Int} {i : Int} (hT : TOK T X) (hi : 0 ≤ i ∧ i < T 0) (hV : VOK V) (h0 : V 0 = V2 0) (hv : ∀ k : Int, 0 ≤ k → k < V 0 → V (1 + k) = V2 (1 + k)) : SC T X V i = SC T X V2 i := by
  have hn := (nm_sz hT hi).1
  unfold SC
  rw [wor_cs hT.2.2.1 hT.2.2.2.1 hT.2.2.2.2 (by omega) (fun k _ _ => rfl) hv hV.1.1, h0]
/-! bits of passing -/
theorem shr_bit {v k : Int} : shr v k % 2 = 1 ↔ v.toNat.testBit k.toNat = true := by
  unfold shr
  rw [Nat.testBit_eq_decide_div_mod_eq, decide_eq_true_iff]
  omega
theorem psb_bit (Pr : Int → Prop) (i : Nat) : ∀ n : Nat, (psb Pr n).toNat.testBit i = true ↔ i < n ∧ Pr i
  | 0 => by
    rw [psb]
    exact ⟨fun h => by simp at h, fun h => absurd h.1 (by omega)⟩
  | n + 1 => by
    have ih := psb_bit Pr i n
    by_cases z : Pr n
    · have e : psb Pr (n + 1) = bor (psb Pr n) (pw n) := by rw [psb, if_pos z]
      rw [e, bor_bit, Bool.or_eq_true, ih, pw_n, decide_eq_true_iff]
      constructor
      · rintro (⟨a, b⟩ | a)
        · exact ⟨by omega, b⟩
        · rw [show i = n by omega]; exact ⟨by omega, z⟩
      · rintro ⟨a, b⟩
        rcases Nat.lt_or_ge i n with w | w
        · exact Or.inl ⟨w, b⟩
        · right; omega
    · have e : psb Pr (n + 1) = psb Pr n := by rw [psb, if_neg z]
      rw [e, ih]
      constructor
      · rintro ⟨a, b⟩; exact ⟨by omega, b⟩
      · rintro ⟨a, b⟩
        rcases Nat.lt_or_ge i n with w | w
        · exact ⟨w, b⟩
        · rw [show i = n by omega] at b; exact absurd b z
theorem psb_sh {Pr : Int → Prop} {n : Nat} {k : Int} (hk : 0 ≤ k) : shr (psb Pr n) k % 2 = 1 ↔ k < n ∧ Pr k := by
  rw [shr_bit, psb_bit, show ((k.toNat : Nat) : Int) = k by omega]
  constructor
  · rintro ⟨a, b⟩; exact ⟨by omega, b⟩
  · rintro ⟨a, b⟩; exact ⟨by omega, b⟩
theorem psb_lt (Pr : Int → Prop) : ∀ n : Nat, n ≤ 30 → psb Pr n < pw n
  | 0, _ => by rw [psb]; decide
  | n + 1, h => by
    have ih := psb_lt Pr n (by omega)
    have h1 := psb_r Pr n (by omega)
    have e2 : pw ((n + 1 : Nat) : Int) = 2 * pw n := by unfold pw; rw [Int.toNat_natCast, Int.toNat_natCast, Nat.pow_succ]; omega
    have hp := pw_r (k := (n : Int)) (by omega)
    by_cases z : Pr n
    · have e : psb Pr (n + 1) = bor (psb Pr n) (pw n) := by rw [psb, if_pos z]
      rw [e, e2]
      unfold bor
      have h3 := Nat.or_lt_two_pow (x := (psb Pr n).toNat) (y := (pw n).toNat) (n := n + 1)
        (by unfold pw at ih; rw [Int.toNat_natCast] at ih; rw [Nat.pow_succ]; omega) (by unfold pw; rw [Int.toNat_natCast, Int.toNat_natCast, Nat.pow_succ]; have := Nat.two_pow_pos n; omega)
      have e3 : pw (n : Int) = ((2 ^ n : Nat) : Int) := by unfold pw; rw [Int.toNat_natCast]
      rw [Nat.pow_succ] at h3
      omega
    · have e : psb Pr (n + 1) = psb Pr n := by rw [psb, if_neg z]
      rw [e, e2]; omega
theorem psb_sub {Pr Q : Int → Prop} {n : Nat} (hPQ : ∀ i : Int, 0 ≤ i → i < n → Pr i → Q i) : bandn (psb Pr n) (psb Q n) = 0 := by
  rw [bandn_0]
  intro i hi
  rw [psb_bit] at hi ⊢
  exact ⟨hi.1, hPQ i (by omega) (by omega) hi.2⟩
theorem cq_more {Q : Int → Prop} {n : Nat} : ∀ k : Nat, (∀ y : Int, n ≤ y → ¬ Q y) → cq Q (n + k) = cq Q n
  | 0, _ => rfl
  | k + 1, h => by rw [← Nat.add_assoc, cq_no (h _ (by omega)), cq_more k h]
/-- how many bits -/
theorem bits_psb {Pr : Int → Prop} {n : Nat} (hn : n ≤ 8) : cq (fun k => shr (psb Pr n) k % 2 = 1) 8 = cq Pr n := by
  have e : cq (fun k => shr (psb Pr n) k % 2 = 1) (n + (8 - n)) = cq (fun k => shr (psb Pr n) k % 2 = 1) n := cq_more _ (fun y hy z => by
    have := (psb_sh (by omega)).mp z; omega)
  rw [show n + (8 - n) = 8 by omega] at e
  rw [e]
  exact cq_congr n (fun y a b => by
    rw [psb_sh a]
    exact ⟨fun z => z.2, fun z => ⟨b, z⟩⟩)
theorem cq_all {Q : Int → Prop} : ∀ n : Nat, (∀ y : Int, 0 ≤ y → y < n → Q y) → cq Q n = n
  | 0, _ => by rw [cq]; rfl
  | n + 1, h => by rw [cq_yes (h n (by omega) (by omega)), cq_all n (fun y a b => h y a (by omega))]; omega
end OPL3
