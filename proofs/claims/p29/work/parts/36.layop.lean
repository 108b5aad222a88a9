/-! the text's calls -/
/-- behind each call on a text -/
def LB (B AG TK h sm : Int) (S : St) : Prop := CI S 600 ∧ (∀ q : Int, 0 ≤ q → q < 32 → S.1 12 q ≤ AG) ∧ (S.1 58 0 = AG ∧ S.1 57 0 = TK ∧ S.1 52 0 = B ∧ S.1 61 0 + S.1 62 0 = sm) ∧ (0 ≤ S.1 61 0 ∧ S.1 61 0 ≤ h) ∧ (0 ≤ S.1 62 0 ∧ S.1 62 0 ≤ h)
/-- so many letters of g are written -/
def WR (g : Int → Int) (L : Int) (S : St) : Prop := S.1 50 0 = L ∧ ∀ k : Int, 0 ≤ k → k < L → S.1 0 k = g k
section OPT
variable {T X V PK : Int → Int} {B AG TK KP h sm r : Int} {S S1 : St}
theorem LB_of (hI : LI T X V PK B AG TK KP h S) : LB (B + T 0) AG TK h (S.1 61 0 + S.1 62 0) S := ⟨hI.1, fun q a b => (hI.2.2.2.1 q a b).1, ⟨hI.2.2.2.2.1.1, hI.2.2.2.2.1.2.1, hI.2.2.2.2.1.2.2.1, rfl⟩, hI.2.2.2.2.2⟩
theorem LB_tx (hI : LB B AG TK h sm S) (hP : S1.2 = S.2) (hF : ∀ (c : Nat) (i : Int), ¬ c = 0 → ¬ c = 50 → S1.1 c i = S.1 c i) (h1 : 0 ≤ S1.1 50 0 ∧ S1.1 50 0 ≤ 200) (h2 : ∀ i : Int, 0 ≤ i → i < S1.1 50 0 → 32 ≤ S1.1 0 i ∧ S1.1 0 i ≤ 126) : LB B AG TK h sm S1 := by
  obtain ⟨⟨c1, c2, c3, c4, c5, c6, c7, c8, c9, c10, c11, c12⟩, k1, a1, a2, a3⟩ := hI
  have f : ∀ (c : Nat) (i : Int), (0 < c ∧ c < 50) ∨ 50 < c → S1.1 c i = S.1 c i := fun c i a => hF c i (by omega) (by omega)
  refine ⟨⟨h1, h2, ?_, ?_, ?_, ?_, ?_, ?_, ?_, KR_fr (fun c i _ _ => f c i (by omega)) c10, ?_, nxi_fr (fun c i hc => f c i (by omega)) c12⟩, ?_, ⟨?_, ?_, ?_, ?_⟩, ?_, ?_⟩
  · rw [f 51 _ (by decide)]; exact c3
  · rw [f 53 _ (by decide), f 54 _ (by decide), f 55 _ (by decide)]; exact c4
  · rw [f 52 _ (by decide), f 56 _ (by decide), f 57 _ (by decide), f 58 _ (by decide), f 59 _ (by decide), f 61 _ (by decide), f 62 _ (by decide), f 63 _ (by decide)]; exact c5
  · rw [hP]; exact c6
  · rw [hP]; exact c7
  · rw [f 51 _ (by decide), hP]
    exact fun x a b => NmOK_fr (fun c i hc => f c i (by omega)) (c6 _ (by omega)) (c8 x a b)
  · intro w hw4
    rw [f 8 _ (by decide)]
    refine ⟨(c9 w hw4).1, fun i a b => ?_⟩
    rw [f (16 + w) i (by omega)]; exact (c9 w hw4).2 i a b
  · intro i a b; rw [f 14 i (by decide)]; exact c11 i a b
  · intro q a b; rw [f 12 q (by decide)]; exact k1 q a b
  · rw [f 58 _ (by decide)]; exact a1.1
  · rw [f 57 _ (by decide)]; exact a1.2.1
  · rw [f 52 _ (by decide)]; exact a1.2.2.1
  · rw [f 61 _ (by decide), f 62 _ (by decide)]; exact a1.2.2.2
  · rw [f 61 _ (by decide)]; exact a2
  · rw [f 62 _ (by decide)]; exact a3
theorem op_wipe {g : Int → Int} (hI : LB B AG TK h sm S) (q : po_X9_wipe S r S1) : (0 ≤ r ∧ r ≤ 200) ∧ LB B AG TK h sm S1 ∧ WR g 0 S1 := by
  obtain ⟨q1, q2⟩ := q
  have hs := hI.1.1
  have e50 : S1.1 50 0 = 0 := by rw [q2]; dsimp only; rw [us_eq]
  refine ⟨by omega, LB_tx hI (by rw [q2]) (fun c i _ b => by rw [q2]; dsimp only; rw [us_nc b]) (by omega) (fun i a b => absurd b (by omega)), e50, fun k a b => absurd b (by omega)⟩
theorem op_write {g : Int → Int} {L x : Int} (hI : LB B AG TK h sm S) (hw : WR g L S) (hL : L < 200) (hx : 32 ≤ x ∧ x ≤ 126) (hg : g L = x) (q : po_X9_write S x r S1) : 0 < r ∧ r ≤ 200 ∧ LB B AG TK h sm S1 ∧ WR g (L + 1) S1 := by
  obtain ⟨w1, w2⟩ := hw
  have hs := hI.1.1
  have hs2 := hI.1.2.1
  obtain ⟨a, -, -⟩ | ⟨-, a, -, -⟩ | ⟨-, -, q1, q2⟩ := q
  · exact absurd hx a
  · omega
  · have e50 : S1.1 50 0 = L + 1 := by rw [q2]; dsimp only; rw [us_eq]; omega
    have e0 : ∀ k : Int, S1.1 0 k = if k = L then x else S.1 0 k := fun k => by rw [q2]; dsimp only; rw [us_nc (by decide), ua_at, w1]; simp
    refine ⟨by omega, by omega, LB_tx hI (by rw [q2]) (fun c i a b => by rw [q2]; dsimp only; rw [us_nc b, ua_nc a]) (by omega) (fun i a b => ?_), e50, fun k a b => ?_⟩
    · rw [e0]
      split
      · exact hx
      · exact hs2 i a (by omega)
    · rw [e0]
      split
      · rename_i e; rw [e]; exact hg.symm
      · exact w2 k a (by omega)
theorem WR_sp {g : Int → Int} (hT : TOK T X) (hg : SP T X g) (hw : WR g (oF T (T 0).toNat + 7) S) : SP T X (txat S) := SP_cs hT (fun k a b => by
  unfold txat
  rw [if_pos ⟨a, by rw [hw.1]; exact b⟩]
  exact hw.2 k a b) hg
theorem op_fault {g : Int → Int} (hT : TOK T X) (hg : SP T X g) (hw : WR g (oF T (T 0).toNat + 7) S) (q : po_X9_fault S r S1) : r = -4 ∧ S1 = S := by
  obtain ⟨q1, q2⟩ := q
  have h0 := hT.1
  have e := SP_flt hT (WR_sp hT hg hw) (T 0).toNat 200 0 (by omega) (by omega)
  refine ⟨?_, q2⟩
  rw [q1, hw.1]
  exact e
theorem op_lay {g : Int → Int} {V0 PK0 : Int → Int} (hT : TOK T X) (hg : SP T X g) (hw : WR g (oF T (T 0).toNat + 7) S) (hI : LB B AG TK h sm S) (hb : AG + 1 ≤ 600 ∧ B ≤ 4000) (hv : V0 0 = 0) (hp : ∀ i : Int, PK0 i = 0) (q : po_X9_lay S r S1) : r = T 0 ∧ LI T X V0 PK0 B (AG + 1) TK 0 h S1 ∧ S1.1 61 0 + S1.1 62 0 = sm := by
  have h0 := hT.1
  have hsp := WR_sp hT hg hw
  have hf := SP_flt hT hsp (T 0).toNat 200 0 (by omega) (by omega)
  have hr0 := oF_r hT (T 0).toNat (by omega)
  obtain ⟨⟨c1, c2, c3, c4, c5, c6, c7, c8, c9, c10, c11, c12⟩, k1, ⟨a1, a2, a3, a6⟩, a4, a5⟩ := hI
  have h8 : S.1 0 0 = 115 := (hw.2 0 (by omega) (by omega)).trans (hg.1 0 (by omega)).1
  have hS : hasS (S.1 0) (S.1 50 0).toNat = true := hasS_mono 1 _ (by rw [hw.1]; omega) (by rw [hasS, hasS]; simp [h8])
  obtain ⟨z, -, -⟩ | ⟨-, -, q1, ⟨I, U, u1, u2, u3, ⟨l1, l2, l3, l4, l5, l6, l7⟩, u5⟩, q3⟩ := q
  · rcases z with z | z
    · exact absurd (by rw [hw.1]; exact hf) z
    · exact absurd hS z
  · rw [hw.1] at u1 u2
    obtain ⟨e1, e2, e3⟩ := SP_end hT hsp
    have hI2 : I = (T 0).toNat + 1 := by
      refine itm_un u1 (fun k hk => (u2 k hk).1) (Int.le_of_eq e1.symm) (fun k hk => ?_)
      obtain ⟨i1, -⟩ := SP_itm hT hsp k (by omega)
      rw [i1]
      rcases Nat.lt_or_ge k (T 0).toNat with w | w
      · have := oF_m hT (T 0).toNat w (by omega)
        have hn := (nm_sz hT (i := k) (by omega)).1
        omega
      · rw [show k = (T 0).toNat by omega]; omega
    subst hI2
    obtain ⟨w1, w2, w3, w4, w5, w6, w7⟩ := hsp.2
    unfold scv at l3 l4 l5
    rw [e3, if_neg (by omega)] at l3 l4 l5
    rw [w2] at l3
    rw [w4] at l4
    rw [w6] at l5
    rw [e2] at l1 l2
    have fV : ∀ (c : Nat) (i : Int), ¬ c = 8 → ¬ c = 56 → ¬ c = 58 → S1.1 c i = U c i := fun c i a b d => by rw [u5, us_nc d, us_nc b, ua_nc a]
    have f : ∀ (c : Nat) (i : Int), ¬ c = 8 → ¬ c = 56 → ¬ c = 58 → ¬ (2 ≤ c ∧ c ≤ 7) → ¬ (20 ≤ c ∧ c < 28) → ¬ (51 ≤ c ∧ c ≤ 55) → S1.1 c i = S.1 c i := fun c i a b d e f g => (fV c i a b d).trans (l7 c i e f g)
    have e58 : S1.1 58 0 = AG + 1 := by rw [u5, us_eq, a1]
    have e56 : S1.1 56 0 = 0 := by rw [u5, us_nc (by decide), us_eq]
    have e80 : S1.1 8 0 = 0 := by rw [u5, us_nc (by decide), us_nc (by decide), ua_eq]
    have e8 : ∀ i : Int, ¬ i = 0 → S1.1 8 i = S.1 8 i := fun i a => by rw [u5, us_nc (by decide), us_nc (by decide), ua_ni a]; exact l7 8 i (by decide) (by decide) (by decide)
    have e51 : S1.1 51 0 = T 0 := (fV 51 0 (by decide) (by decide) (by decide)).trans l1
    have e52 : S1.1 52 0 = B + T 0 := (fV 52 0 (by decide) (by decide) (by decide)).trans (l2.trans (by rw [a3]))
    have e53 : S1.1 53 0 = T 17 := (fV 53 0 (by decide) (by decide) (by decide)).trans (by omega)
    have e54 : S1.1 54 0 = T 18 := (fV 54 0 (by decide) (by decide) (by decide)).trans (by omega)
    have e55 : S1.1 55 0 = T 19 := (fV 55 0 (by decide) (by decide) (by decide)).trans (by omega)
    have hnm : ∀ i : Int, 0 ≤ i → i < T 0 → nmL T X PK0 B S1.1 (S.2 i.toNat) i := fun i i0 i1 => by
      obtain ⟨n, rfl⟩ : ∃ n : Nat, i = n := ⟨i.toNat, by omega⟩
      obtain ⟨j1, j2, -⟩ := SP_itm hT hsp n (by omega)
      obtain ⟨b1, b2, b3, b4, b5⟩ := hsp.1 n i1
      have hl := l6 n (by omega) (by rw [j1]; exact b1)
      rw [j1, j2, Int.toNat_natCast, a3] at hl
      have hs := SP_sg hT hsp n i1
      obtain ⟨v1, v2, v3, v4, v5, v6, v7⟩ := hl
      rw [hs] at v1 v5 v6 v7
      have hp8 := c6 n (by omega)
      have hn := (nm_sz hT (i := n) (by omega)).1
      rw [Int.toNat_natCast]
      unfold nmL
      rw [fV 2 _ (by decide) (by decide) (by decide), fV 3 _ (by decide) (by decide) (by decide), fV 4 _ (by decide) (by decide) (by decide), fV 5 _ (by decide) (by decide) (by decide), fV 6 _ (by decide) (by decide) (by decide), fV 7 _ (by decide) (by decide) (by decide)]
      refine ⟨v1, by omega, v3, by rw [v4, hp], ?_, ?_, fun k x y => ?_⟩
      · rw [v5]; exact bgv_congr _ (fun k x y => b4 k x (by omega))
      · rw [v6]; exact lbv_cs _ (fun k x y => b4 k x (by omega))
      · rw [fV (20 + S.2 n) k (by omega) (by omega) (by omega), v7 k x y]; exact b4 k x y
    refine ⟨by rw [q3]; exact e51, ⟨⟨?_, ?_, ?_, ?_, ?_, ?_, ?_, ?_, ?_, KR_fr (fun c i _ _ => f c i (by omega) (by omega) (by omega) (by omega) (by omega) (by omega)) c10, ?_, nxi_fr (fun c i hc => f c i (by omega) (by omega) (by omega) (by omega) (by omega) (by omega)) c12⟩, ⟨e51, ⟨e53, e54, e55⟩, fun i p q => by rw [q1]; exact hnm i p q⟩, ⟨by rw [e80, hv], fun k a b => absurd b (by omega)⟩, fun q x y => ?_, ⟨e58, ?_, e52, e56⟩, ?_, ?_⟩, ?_⟩
    · rw [f 50 _ (by decide) (by decide) (by decide) (by decide) (by decide) (by decide)]; exact c1
    · rw [f 50 _ (by decide) (by decide) (by decide) (by decide) (by decide) (by decide)]
      intro i x y
      rw [f 0 _ (by decide) (by decide) (by decide) (by decide) (by decide) (by decide)]; exact c2 i x y
    · rw [e51]; exact h0
    · rw [e53, e54, e55]; exact hT.2.2
    · rw [e52, e56, f 57 _ (by decide) (by decide) (by decide) (by decide) (by decide) (by decide), e58, f 59 _ (by decide) (by decide) (by decide) (by decide) (by decide) (by decide), f 61 _ (by decide) (by decide) (by decide) (by decide) (by decide) (by decide), f 62 _ (by decide) (by decide) (by decide) (by decide) (by decide) (by decide), f 63 _ (by decide) (by decide) (by decide) (by decide) (by decide) (by decide)]
      obtain ⟨d1, d2, d3, d4, d5, d6, d7, d8, d9⟩ := c5
      exact ⟨d1, by omega, by omega, d4, by omega, d6, d7, d8, d9⟩
    · rw [q1]; exact c6
    · rw [q1]; exact c7
    · rw [e51, q1]
      intro x x0 x1
      obtain ⟨n1, n2, n3, n4, n5, n6, n7⟩ := hnm x x0 x1
      have hn := nm_sz hT ⟨x0, x1⟩
      unfold NmOK
      rw [n1, n2, n3, n4, n5, n6, hp]
      obtain ⟨d1, d2, d3, d4, d5, d6, d7, d8, d9⟩ := c5
      refine ⟨hn.1, hn.2.1, by omega, by omega, bgv_r _ _ (by omega), lbv_r _ _, fun k y0 y1 => ?_⟩
      rw [n7 k y0 y1]
      have := sgv_s (X x) k
      unfold sgn at this
      show 0 ≤ sgv (X x) k ∧ sgv (X x) k ≤ 126
      omega
    · intro w hw4
      by_cases z : w = 0
      · subst z
        have e : S1.1 8 ((0 : Nat) : Int) = 0 := e80
        rw [e]
        exact ⟨by omega, fun i x y => absurd y (by omega)⟩
      · rw [e8 _ (by omega)]
        refine ⟨(c9 w hw4).1, fun i a b => ?_⟩
        rw [f (16 + w) i (by omega) (by omega) (by omega) (by omega) (by omega) (by omega)]; exact (c9 w hw4).2 i a b
    · intro i x y; rw [f 14 i (by decide) (by decide) (by decide) (by decide) (by decide) (by decide)]; exact c11 i x y
    · rw [f 12 q (by decide) (by decide) (by decide) (by decide) (by decide) (by decide)]
      have := k1 q x y
      exact ⟨by omega, fun z => absurd z (by omega)⟩
    · rw [f 57 _ (by decide) (by decide) (by decide) (by decide) (by decide) (by decide)]; exact a2
    · rw [f 61 _ (by decide) (by decide) (by decide) (by decide) (by decide) (by decide)]; exact a4
    · rw [f 62 _ (by decide) (by decide) (by decide) (by decide) (by decide) (by decide)]; exact a5
    · rw [f 61 _ (by decide) (by decide) (by decide) (by decide) (by decide) (by decide), f 62 _ (by decide) (by decide) (by decide) (by decide) (by decide) (by decide)]; exact a6
end OPT
