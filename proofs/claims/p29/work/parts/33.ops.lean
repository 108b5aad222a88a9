/-! the list; letters; picks; kept -/
abbrev ahL (T X V PK : Int → Int) (a b : Int) : Prop := ahd (SC T X V a) (SC T X V b) (PK a) (PK b) (T (1 + a)) (T (1 + b)) a b
def RKL (T X V PK g : Int → Int) (mny : Int) : Prop := (0 ≤ mny ∧ mny ≤ T 0) ∧ (∀ i : Int, 0 ≤ i → i < mny → (0 ≤ g i ∧ g i < T 0) ∧ ¬ SC T X V (g i) = -4) ∧ (∀ i j : Int, 0 ≤ i → i < j → j < mny → ahL T X V PK (g i) (g j)) ∧ ∀ n : Int, 0 ≤ n → n < T 0 → ¬ SC T X V n = -4 → ∃ i : Int, (0 ≤ i ∧ i < mny) ∧ g i = n
section RKU
variable {T X V PK g g2 : Int → Int} {m m2 : Int}
theorem RKL_inj (h : RKL T X V PK g m) {i j : Int} (hi : 0 ≤ i ∧ i < m) (hj : 0 ≤ j ∧ j < m) (e : g i = g j) : i = j := by
  rcases Int.lt_trichotomy i j with z | z | z
  · have := h.2.2.1 i j hi.1 z hj.2; rw [e] at this; unfold ahL ahd at this; omega
  · exact z
  · have := h.2.2.1 j i hj.1 z hi.2; rw [e] at this; unfold ahL ahd at this; omega
theorem RKL_g (h : RKL T X V PK g m) (h2 : RKL T X V PK g2 m2) : ∀ k : Nat, ∀ i : Int, 0 ≤ i → i < k → i < m → i < m2 → g i = g2 i
  | 0, i, a, b, _, _ => absurd b (by omega)
  | k + 1, i, a, b, c, d => by
    have ih := RKL_g h h2 k
    rcases Int.lt_or_le i k with z | z
    · exact ih i a z c d
    · obtain ⟨p1, p2⟩ := h.2.1 i a c
      obtain ⟨q1, q2⟩ := h2.2.1 i a d
      obtain ⟨x, x1, x2⟩ := h2.2.2.2 (g i) p1.1 p1.2 p2
      obtain ⟨y, y1, y2⟩ := h.2.2.2 (g2 i) q1.1 q1.2 q2
      rcases Int.lt_trichotomy x i with w | w | w
      · have e := ih x x1.1 (by omega) (by omega) x1.2
        have := RKL_inj h ⟨x1.1, by omega⟩ ⟨a, c⟩ (by rw [e, x2])
        omega
      · rw [← x2, w]
      · rcases Int.lt_trichotomy y i with u | u | u
        · have e := ih y y1.1 (by omega) y1.2 (by omega)
          have := RKL_inj h2 ⟨y1.1, by omega⟩ ⟨a, d⟩ (by rw [← e, y2])
          omega
        · rw [← y2, u]
        · have a1 := h2.2.2.1 i x a w x1.2
          have a2 := h.2.2.1 i y a u y1.2
          rw [x2] at a1
          rw [y2] at a2
          exact absurd a1 (ahd_irr a2)
theorem RKL_m (h : RKL T X V PK g m) (h2 : RKL T X V PK g2 m2) : m ≤ m2 := by
  rcases Int.lt_or_le m2 m with z | z
  · obtain ⟨p1, p2⟩ := h.2.1 m2 h2.1.1 z
    obtain ⟨x, x1, x2⟩ := h2.2.2.2 (g m2) p1.1 p1.2 p2
    have e := RKL_g h h2 m2.toNat x x1.1 (by omega) (by omega) x1.2
    have := RKL_inj h ⟨x1.1, by omega⟩ ⟨h2.1.1, z⟩ (by rw [e, x2])
    omega
  · exact z
theorem RKL_un (h : RKL T X V PK g m) (h2 : RKL T X V PK g2 m2) : m = m2 ∧ ∀ i : Int, 0 ≤ i → i < m → g i = g2 i := by
  have a := RKL_m h h2
  have b := RKL_m h2 h
  exact ⟨by omega, fun i x y => RKL_g h h2 m.toNat i x (by omega) y (by omega)⟩
theorem RKL_cq (h : RKL T X V PK g m) (hT : 0 ≤ T 0) : cq (fun i => ¬ SC T X V i = -4) (T 0).toNat = m := by
  have h1 := h.1
  rw [cq_enum g m.toNat _ (fun j a b => ?_) (fun j k a b c e => ?_) (fun y a b q => ?_)]
  · omega
  · obtain ⟨p, q⟩ := h.2.1 j a (by omega)
    exact ⟨⟨p.1, by omega⟩, q⟩
  · have := RKL_inj h ⟨a, by omega⟩ ⟨by omega, by omega⟩ e; omega
  · obtain ⟨x, x1, x2⟩ := h.2.2.2 y a (by omega) q
    exact ⟨x, ⟨x1.1, by omega⟩, x2⟩
end RKU
section OPL2
variable {T X V PK : Int → Int} {B AG TK KP h r : Int} {S S1 : St}
theorem cq_le (Q : Int → Prop) : ∀ n : Nat, cq Q n ≤ n
  | 0 => by rw [cq]; omega
  | n + 1 => by
    have := cq_le Q n
    by_cases z : Q n
    · rw [cq_yes z]; omega
    · rw [cq_no z]; omega
theorem op_list {x : Int} (hT : TOK T X) (hV : VOK V) (hI : LI T X V PK B AG TK KP h S) (hh : h + 8 ≤ 4800) (hx : -1 ≤ x) (q : po_X9_list S x r S1) : ∃ (g : Int → Int) (mny : Int), RKL T X V PK g mny ∧ LI T X V PK B AG TK KP (h + 8) S1 ∧ S1.1 61 0 + S1.1 62 0 = S.1 61 0 + S.1 62 0 + cq (PSs T X V) (T 0).toNat ∧ (x = -1 → r = mny ∧ S1.1 14 0 = CD V ∧ 1 ≤ S1.1 63 0) ∧ (0 ≤ x → r = if x < mny then g x else -4) ∧ ∀ (c : Nat) (i : Int), c < 9 ∨ (16 ≤ c ∧ c < 29) → S1.1 c i = S.1 c i := by
  have hs := LI_sz hI
  have hT0 := hT.1
  obtain ⟨a, -, -⟩ | ⟨-, W, q1, q2, q3, q4⟩ := q
  · exact absurd hx (by omega)
  · rw [hs] at q1 q2
    obtain ⟨s1, s2, s3, ⟨s4, s5, s6⟩, s7⟩ := SKAL hT hV hI (T 0).toNat (by omega)
    have fW : ∀ (c : Nat) (i : Int), ¬ (30 ≤ c ∧ c < 46) → ¬ c = 60 → ¬ c = 29 → ¬ c = 64 → ¬ (10 ≤ c ∧ c < 14) → ¬ c = 15 → ¬ c = 61 → ¬ c = 62 → W c i = S.1 c i := fun c i p q r s t u v w => (q1 c i p q r s).trans (s7 c i t u v w)
    have w15 : ∀ y : Int, 0 ≤ y → y < T 0 → W 15 y = SC T X V y := fun y a b => (q1 15 y (by decide) (by decide) (by decide) (by decide)).trans (s3 y a (by omega))
    have w5 : ∀ y : Int, 0 ≤ y → y < T 0 → W 5 ((S.2 y.toNat : Nat) : Int) = PK y := fun y a b => (fW 5 _ (by decide) (by decide) (by decide) (by decide) (by decide) (by decide) (by decide) (by decide)).trans (LI_nm hI ⟨a, b⟩).2.2.2.1
    have w2 : ∀ y : Int, 0 ≤ y → y < T 0 → W 2 ((S.2 y.toNat : Nat) : Int) = T (1 + y) := fun y a b => (fW 2 _ (by decide) (by decide) (by decide) (by decide) (by decide) (by decide) (by decide) (by decide)).trans (LI_nm hI ⟨a, b⟩).1
    have hrk : RKL T X V PK (W 29) (W 64 0) := by
      obtain ⟨k1, k2, k3, k4, k5⟩ := q2
      refine ⟨⟨k1, k2⟩, fun i a b => ?_, fun i j a b c => ?_, fun n a b c => ?_⟩
      · obtain ⟨x1, x2, x3⟩ := k3 i a b
        exact ⟨⟨x1, x2⟩, by rw [← w15 _ x1 x2]; exact x3⟩
      · obtain ⟨x1, x2, x3⟩ := k3 i a (by omega)
        obtain ⟨y1, y2, y3⟩ := k3 j (by omega) c
        have e := k4 i j a b c
        unfold ahS at e
        rw [w15 _ x1 x2, w15 _ y1 y2, w5 _ x1 x2, w5 _ y1 y2, w2 _ x1 x2, w2 _ y1 y2] at e
        exact e
      · obtain ⟨i, i1, i2, i3⟩ := k5 n a b (by rw [w15 n a b]; exact c)
        exact ⟨i, ⟨i1, i2⟩, i3⟩
    have ha := LI_ask hI
    have hb := hI.2.2.2.2.2
    have e61 := q1 61 0 (by decide) (by decide) (by decide) (by decide)
    have e62 := q1 62 0 (by decide) (by decide) (by decide) (by decide)
    have hcd := LI_cd hV hI
    have hcr := CD_r hV
    have a14 : ∀ i : Int, W 14 i = S.1 14 i := fun i => fW 14 i (by decide) (by decide) (by decide) (by decide) (by decide) (by decide) (by decide) (by decide)
    have a63 : W 63 0 = S.1 63 0 := fW 63 0 (by decide) (by decide) (by decide) (by decide) (by decide) (by decide) (by decide) (by decide)
    have key : ∀ V2 : Nat → Int → Int, (∀ (c : Nat) (i : Int), ¬ c = 14 → ¬ c = 63 → V2 c i = W c i) → ((0 ≤ V2 63 0 ∧ V2 63 0 ≤ 6) ∧ ∀ i : Int, 0 ≤ i → i < 6 → 0 ≤ V2 14 i ∧ V2 14 i < 1099511627776) → LI T X V PK B AG TK KP (h + 8) (V2, S.2) := fun V2 hV2 hA => by
      refine LI_sk hI rfl (fun c i _ _ g3 g4 g5 g6 => (hV2 c i (by omega) (by omega)).trans (fW c i g5 (by omega) g4 (by omega) (by omega) (by omega) (by omega) (by omega))) (nxi_fr (fun c i hc => hV2 c i (by omega) (by omega)) q3) (wdT_fr (fun c i hc => (hV2 c i (by omega) (by omega)).trans (fW c i (by omega) (by omega) (by omega) (by omega) (by omega) (by omega) (by omega) (by omega))) (LI_wdT hI)) (KR_fr (fun c i _ _ => (hV2 c i (by omega) (by omega)).trans (q1 c i (by omega) (by omega) (by omega) (by omega))) s2) hA (LKn_fr (fun c i _ _ => (hV2 c i (by omega) (by omega)).trans (q1 c i (by omega) (by omega) (by omega) (by omega))) s1) ?_ ?_ hh
      · show 0 ≤ V2 61 0 ∧ V2 61 0 ≤ h + 8
        rw [hV2 61 0 (by decide) (by decide)]; omega
      · show 0 ≤ V2 62 0 ∧ V2 62 0 ≤ h + 8
        rw [hV2 62 0 (by decide) (by decide)]; omega
    refine ⟨W 29, W 64 0, hrk, ?_⟩
    rcases q4 with ⟨x1, x2, x3⟩ | ⟨x1, x2, x3⟩
    · rw [hcd] at x3
      rw [x3]
      have b : ∀ i : Int, 0 ≤ i → i < 6 → i = 0 ∨ i = 1 ∨ i = 2 ∨ i = 3 ∨ i = 4 ∨ i = 5 := fun i p q => by omega
      have c0 : askF W (CD V) 14 0 = CD V := by unfold askF; rw [us_nc (by decide), ua_eq]
      have c1 : askF W (CD V) 14 1 = W 14 0 := by unfold askF; rw [us_nc (by decide), ua_ni (by decide), ua_eq]
      have c2 : askF W (CD V) 14 2 = W 14 1 := by unfold askF; rw [us_nc (by decide), ua_ni (by decide), ua_ni (by decide), ua_eq]
      have c3 : askF W (CD V) 14 3 = W 14 2 := by unfold askF; rw [us_nc (by decide), ua_ni (by decide), ua_ni (by decide), ua_ni (by decide), ua_eq]
      have c4 : askF W (CD V) 14 4 = W 14 3 := by unfold askF; rw [us_nc (by decide), ua_ni (by decide), ua_ni (by decide), ua_ni (by decide), ua_ni (by decide), ua_eq]
      have c5 : askF W (CD V) 14 5 = W 14 4 := by unfold askF; rw [us_nc (by decide), ua_ni (by decide), ua_ni (by decide), ua_ni (by decide), ua_ni (by decide), ua_ni (by decide), ua_eq]
      have c6 : askF W (CD V) 63 0 = (if 6 < W 63 0 + 1 then 6 else W 63 0 + 1) := by unfold askF; rw [us_eq]
      have z6 : 1 ≤ askF W (CD V) 63 0 ∧ askF W (CD V) 63 0 ≤ 6 := by rw [c6, a63]; split <;> omega
      refine ⟨key _ (fun c i p q => aF_fr p q) ⟨⟨by omega, z6.2⟩, fun i p q => ?_⟩, ?_, fun _ => ⟨x2, c0, z6.1⟩, fun z => absurd x1 (by omega), fun c i hc => ?_⟩
      · rcases b i p q with e | e | e | e | e | e <;> subst e
        · rw [c0]; omega
        · rw [c1, a14]; exact ha.2 0 (by omega) (by omega)
        · rw [c2, a14]; exact ha.2 1 (by omega) (by omega)
        · rw [c3, a14]; exact ha.2 2 (by omega) (by omega)
        · rw [c4, a14]; exact ha.2 3 (by omega) (by omega)
        · rw [c5, a14]; exact ha.2 4 (by omega) (by omega)
      · dsimp only
        rw [aF_fr (by decide) (by decide), aF_fr (by decide) (by decide)]; omega
      · dsimp only
        rw [aF_fr (by omega) (by omega)]; exact fW c i (by omega) (by omega) (by omega) (by omega) (by omega) (by omega) (by omega) (by omega)
    · rw [x3]
      refine ⟨key _ (fun c i p q => rfl) ⟨by rw [a63]; exact ha.1, fun i p q => by rw [a14]; exact ha.2 i p q⟩, ?_, fun z => absurd x1 (by omega), fun _ => x2, fun c i hc => fW c i (by omega) (by omega) (by omega) (by omega) (by omega) (by omega) (by omega) (by omega)⟩
      dsimp only
      omega
/-- a letter more, a letter less: another word -/
theorem LI_word {V2 : Int → Int} (hI : LI T X V PK B AG TK KP h S) (hP : S1.2 = S.2) (hF : ∀ (c : Nat) (i : Int), ¬ (c = 8 ∧ i = 0) → ¬ c = 16 → S1.1 c i = S.1 c i) (hV2 : VOK V2) (hw : LWd V2 S1) : LI T X V2 PK B AG TK KP h S1 := by
  have f : ∀ (c : Nat) (i : Int), ¬ c = 8 → ¬ c = 16 → S1.1 c i = S.1 c i := fun c i a b => hF c i (fun z => a z.1) b
  have f20 : ∀ p : Nat, S1.1 (20 + p) = S.1 (20 + p) := fun p => funext (fun i => f _ i (by omega) (by omega))
  obtain ⟨⟨c1, c2, c3, c4, c5, c6, c7, c8, c9, c10, c11, c12⟩, ⟨n1, n2, n3⟩, -, k1, a1, h1, h2⟩ := id hI
  refine ⟨⟨?_, ?_, ?_, ?_, ?_, ?_, ?_, ?_, ?_, KR_fr (fun c i _ _ => f c i (by omega) (by omega)) c10, ?_, nxi_fr (fun c i hc => f c i (by omega) (by omega)) c12⟩, ⟨?_, ?_, fun i p q => ?_⟩, hw, LKn_fr (fun c i _ _ => f c i (by omega) (by omega)) k1, ?_, ?_, ?_⟩
  · rw [f 50 _ (by decide) (by decide)]; exact c1
  · rw [f 50 _ (by decide) (by decide)]; exact fun i a b => by rw [f 0 _ (by decide) (by decide)]; exact c2 i a b
  · rw [f 51 _ (by decide) (by decide)]; exact c3
  · rw [f 53 _ (by decide) (by decide), f 54 _ (by decide) (by decide), f 55 _ (by decide) (by decide)]; exact c4
  · rw [f 52 _ (by decide) (by decide), f 56 _ (by decide) (by decide), f 57 _ (by decide) (by decide), f 58 _ (by decide) (by decide), f 59 _ (by decide) (by decide), f 61 _ (by decide) (by decide), f 62 _ (by decide) (by decide), f 63 _ (by decide) (by decide)]; exact c5
  · rw [hP]; exact c6
  · rw [hP]; exact c7
  · rw [f 51 _ (by decide) (by decide), hP]
    exact fun x a b => NmOK_fr (fun c i hc => f c i (by omega) (by omega)) (c6 _ (by omega)) (c8 x a b)
  · intro w hw4
    by_cases z : w = 0
    · subst z
      have e8 : S1.1 8 ((0 : Nat) : Int) = V2 0 := hw.1
      rw [e8]
      refine ⟨hV2.1, fun i a b => ?_⟩
      have := hV2.2 i a b
      rw [← hw.2 i a b] at this
      exact this
    · rw [hF 8 _ (by omega) (by omega)]
      refine ⟨(c9 w hw4).1, fun i a b => ?_⟩
      rw [f (16 + w) i (by omega) (by omega)]; exact (c9 w hw4).2 i a b
  · intro i a b; rw [f 14 i (by decide) (by decide)]; exact c11 i a b
  · rw [f 51 _ (by decide) (by decide)]; exact n1
  · rw [f 53 _ (by decide) (by decide), f 54 _ (by decide) (by decide), f 55 _ (by decide) (by decide)]; exact n2
  · have h9 := n3 i p q
    rw [hP]
    unfold nmL at h9 ⊢
    rw [f 2 _ (by decide) (by decide), f 3 _ (by decide) (by decide), f 4 _ (by decide) (by decide), f 5 _ (by decide) (by decide), f 6 _ (by decide) (by decide), f 7 _ (by decide) (by decide), f20]
    exact h9
  · rw [f 58 _ (by decide) (by decide), f 57 _ (by decide) (by decide), f 52 _ (by decide) (by decide), f 56 _ (by decide) (by decide)]; exact a1
  · rw [f 61 _ (by decide) (by decide)]; exact h1
  · rw [f 62 _ (by decide) (by decide)]; exact h2
/-- V2 has the letters of V below k, k in all, and the last one x -/
abbrev VX (V V2 : Int → Int) (x : Int) : Prop := V2 0 = V 0 + 1 ∧ (∀ k : Int, 0 ≤ k → k < V 0 → V2 (1 + k) = V (1 + k)) ∧ V2 (1 + V 0) = x
theorem VX_ok {V2 : Int → Int} {x : Int} (hV : VOK V) (h6 : V 0 < 6) (hx : ltr x) (q : VX V V2 x) : VOK V2 := by
  obtain ⟨q1, q2, q3⟩ := q
  have := hV.1
  refine ⟨by omega, fun k a b => ?_⟩
  rcases Int.lt_or_le k (V 0) with z | z
  · rw [q2 k a z]; exact hV.2 k a z
  · rw [show k = V 0 by omega, q3]; exact hx
theorem op_type {V2 : Int → Int} {x : Int} (hV : VOK V) (hI : LI T X V PK B AG TK KP h S) (h6 : V 0 < 6) (hx : ltr x) (v : VX V V2 x) (q : po_X9_type S x r S1) : r = V 0 + 1 ∧ LI T X V2 PK B AG TK KP h S1 ∧ ∀ (c : Nat) (i : Int), ¬ (c = 8 ∧ i = 0) → ¬ c = 16 → S1.1 c i = S.1 c i := by
  obtain ⟨w1, w2⟩ := LI_w hI
  have hv := hV.1
  obtain ⟨a, -, -⟩ | ⟨-, a, -, -⟩ | ⟨-, -, q1, q2⟩ := q
  · exact absurd hx a
  · omega
  · have f : ∀ (c : Nat) (i : Int), ¬ (c = 8 ∧ i = 0) → ¬ c = 16 → S1.1 c i = S.1 c i := fun c i a b => by
      rw [q2]; dsimp only
      rw [ua_at, if_neg a, ua_nc b]
    refine ⟨by omega, LI_word hI (by rw [q2]) f (VX_ok hV h6 hx v) ⟨?_, fun k a b => ?_⟩, f⟩
    · rw [q2]; dsimp only; rw [ua_eq, w1, v.1]
    · rw [q2]; dsimp only
      rw [ua_nc (by decide), ua_at]
      have v1 := v.1
      rcases Int.lt_or_le k (V 0) with z | z
      · rw [if_neg (by omega), v.2.1 k a z]; exact w2 k a z
      · rw [if_pos ⟨rfl, by omega⟩, show k = V 0 by omega, v.2.2]
theorem op_untype0 (hI : LI T X V PK B AG TK KP h S) (h0 : V 0 = 0) (q : po_X9_untype S r S1) : r = -2 ∧ S1 = S := by
  obtain ⟨w1, w2⟩ := LI_w hI
  obtain ⟨-, q1, q2⟩ | ⟨a, -, -⟩ := q
  · exact ⟨q1, q2⟩
  · omega
theorem op_untype {V2 : Int → Int} (hV : VOK V) (hI : LI T X V PK B AG TK KP h S) (h0 : 0 < V 0) (v : V2 0 = V 0 - 1 ∧ ∀ k : Int, 0 ≤ k → k < V 0 - 1 → V2 (1 + k) = V (1 + k)) (q : po_X9_untype S r S1) : r = V (V 0) ∧ VOK V2 ∧ LI T X V2 PK B AG TK KP h S1 ∧ ∀ (c : Nat) (i : Int), ¬ (c = 8 ∧ i = 0) → ¬ c = 16 → S1.1 c i = S.1 c i := by
  obtain ⟨w1, w2⟩ := LI_w hI
  have hv := hV.1
  have hV2 : VOK V2 := ⟨by omega, fun k a b => by rw [v.2 k a (by omega)]; exact hV.2 k a (by omega)⟩
  obtain ⟨a, -, -⟩ | ⟨-, q1, q2⟩ := q
  · omega
  · have f : ∀ (c : Nat) (i : Int), ¬ (c = 8 ∧ i = 0) → ¬ c = 16 → S1.1 c i = S.1 c i := fun c i a b => by
      rw [q2]; dsimp only
      rw [ua_at, if_neg a]
    refine ⟨?_, hV2, LI_word hI (by rw [q2]) f hV2 ⟨?_, fun k a b => ?_⟩, f⟩
    · have e := w2 (V 0 - 1) (by omega) (by omega)
      rw [q1, w1]
      rw [show V 0 = 1 + (V 0 - 1) by omega]
      rw [show 1 + (V 0 - 1) - 1 = V 0 - 1 by omega]
      exact e
    · rw [q2]; dsimp only; rw [ua_eq, w1, v.1]
    · rw [q2]; dsimp only
      rw [ua_nc (by decide), v.2 k a (by omega)]; exact w2 k a (by omega)
end OPL2
