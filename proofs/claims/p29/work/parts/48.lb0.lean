/-! behind the class's constructor -/
set_option maxRecDepth 100000 in
theorem it78 : 78 ≤ itm t78 7 ∧ (∀ k : Nat, k < 7 → itm t78 k < 78) ∧ cnt t78 7 = 6 ∧ scv t78 7 3 1 = 4 ∧ scv t78 7 2 3 = 3 ∧ scv t78 7 1 5 = 1 := by decide +kernel
set_option maxRecDepth 100000 in
theorem nm78 : ∀ x : Nat, x < 6 → t78 (itm t78 x) = 115 ∧ cnt t78 x = x ∧ (1 ≤ sgc t78 (itm t78 x + 3) 13 ∧ sgc t78 (itm t78 x + 3) 13 ≤ 12) ∧ (0 ≤ t78 (itm t78 x + 1) - 48 ∧ t78 (itm t78 x + 1) - 48 ≤ 3) ∧ ∀ k : Nat, k < 12 → 0 ≤ t78 ((itm t78 x + 3) + (k : Int)) ∧ t78 ((itm t78 x + 3) + (k : Int)) ≤ 126 := by decide +kernel
theorem sC0_0 {c : Nat} {j : Int} (h : ¬ c = 59) (h2 : ¬ c = 60) : sC0 c j = 0 := by unfold sC0; rw [us_nc h2, us_nc h]
theorem LB_0 {S : St} (hc : JC0 S) : LB 6 1 0 0 0 S := by
  obtain ⟨U, V, hU, ⟨I, W, q1, q2, q3, q4, q5⟩, rfl⟩ := hc
  obtain ⟨i1, i2, i3, i4, i5, i6⟩ := it78
  have eI : I = 7 := itm_un q1 (fun k hk => (q2 k hk).1) i1 i2
  subst eI
  obtain ⟨l1, l2, l3, l4, l5, l6, l7⟩ := q4
  have fV : ∀ (c : Nat) (i : Int), ¬ c = 50 → ¬ c = 8 → ¬ c = 56 → ¬ c = 58 → us V 50 0 c i = W c i := fun c i a b d k => by rw [us_nc a, q5, us_nc k, us_nc d, ua_nc b]
  have u0 : ∀ (c : Nat) (i : Int), ¬ c = 0 → ¬ c = 50 → ¬ c = 59 → ¬ c = 60 → U c i = 0 := fun c i a b d k => (hU.2.2 c i a b).trans (sC0_0 d k)
  have z : ∀ (c : Nat) (i : Int), ¬ c = 0 → ¬ c = 50 → ¬ c = 8 → ¬ c = 56 → ¬ c = 58 → ¬ (2 ≤ c ∧ c ≤ 7) → ¬ (20 ≤ c ∧ c < 28) → ¬ (51 ≤ c ∧ c ≤ 55) → ¬ c = 59 → ¬ c = 60 → us V 50 0 c i = 0 := fun c i a b d k n o p q r t => (fV c i b d k n).trans ((l7 c i o p q).trans (u0 c i a b r t))
  have e50 : us V 50 0 50 0 = 0 := us_eq
  have e8 : ∀ i : Int, us V 50 0 8 i = 0 := fun i => by
    rw [us_nc (by decide), q5, us_nc (by decide), us_nc (by decide), ua_at]
    by_cases h : i = 0
    · rw [if_pos ⟨rfl, h⟩]
    · rw [if_neg (fun q => h q.2), l7 8 i (by decide) (by decide) (by decide), u0 8 i (by decide) (by decide) (by decide) (by decide)]
  have e56 : us V 50 0 56 0 = 0 := by rw [us_nc (by decide), q5, us_nc (by decide), us_eq]
  have e58 : us V 50 0 58 0 = 1 := by rw [us_nc (by decide), q5, us_eq, u0 58 0 (by decide) (by decide) (by decide) (by decide)]; rfl
  have e59 : us V 50 0 59 0 = 1 := by rw [fV 59 0 (by decide) (by decide) (by decide) (by decide), l7 59 0 (by decide) (by decide) (by decide), hU.2.2 59 0 (by decide) (by decide)]; rfl
  have e51 : us V 50 0 51 0 = 6 := by rw [fV 51 0 (by decide) (by decide) (by decide) (by decide), l1, i3]
  have e52 : us V 50 0 52 0 = 6 := by rw [fV 52 0 (by decide) (by decide) (by decide) (by decide), l2, i3, u0 52 0 (by decide) (by decide) (by decide) (by decide)]; rfl
  have e53 : us V 50 0 53 0 = 4 := by rw [fV 53 0 (by decide) (by decide) (by decide) (by decide), l3, i4]
  have e54 : us V 50 0 54 0 = 3 := by rw [fV 54 0 (by decide) (by decide) (by decide) (by decide), l4, i5]
  have e55 : us V 50 0 55 0 = 1 := by rw [fV 55 0 (by decide) (by decide) (by decide) (by decide), l5, i6]
  have zz : ∀ (c : Nat) (i : Int), (8 < c ∧ c < 20) ∨ (28 ≤ c ∧ c < 50) ∨ c = 57 ∨ (60 < c) → us V 50 0 c i = 0 := fun c i h => z c i (by omega) (by omega) (by omega) (by omega) (by omega) (by omega) (by omega) (by omega) (by omega) (by omega)
  have key : ∀ x : Int, 0 ≤ x → x < 6 → NmOK (us V 50 0) x.toNat := fun x x0 x1 => by
    obtain ⟨n, rfl⟩ : ∃ n : Nat, x = n := ⟨x.toNat, by omega⟩
    have hn : n < 6 := by omega
    rw [Int.toNat_natCast]
    obtain ⟨g1, g2, g3, g4, g5⟩ := nm78 n hn
    have hl := l6 n (by omega) g1
    rw [g2, Int.toNat_natCast, u0 52 0 (by decide) (by decide) (by decide) (by decide), Int.zero_add] at hl
    obtain ⟨v1, v2, v3, v4, v5, v6, v7⟩ := hl
    have fV2 : ∀ (c : Nat) (i : Int), (2 ≤ c ∧ c ≤ 7) ∨ (20 ≤ c ∧ c < 28) → us V 50 0 c i = W c i := fun c i h => fV c i (by omega) (by omega) (by omega) (by omega)
    have hb := bgv_r (fun k_ => t78 ((itm t78 n + 3) + k_)) (sgc t78 (itm t78 n + 3) 13).toNat (by omega)
    have hlb := lbv_r (fun k_ => t78 ((itm t78 n + 3) + k_)) (sgc t78 (itm t78 n + 3) 13).toNat
    unfold NmOK
    rw [fV2 2 _ (by omega), fV2 3 _ (by omega), fV2 4 _ (by omega), fV2 5 _ (by omega), fV2 6 _ (by omega), fV2 7 _ (by omega), v1, v2, v3, v4, v5, v6]
    refine ⟨by omega, by omega, by omega, by omega, hb, hlb, fun i i0 i1 => ?_⟩
    rw [fV2 (20 + n) i (by omega), v7 i i0 i1]
    have h5 := g5 i.toNat (by omega)
    rw [show ((i.toNat : Nat) : Int) = i by omega] at h5
    exact h5
  refine ⟨⟨?_, fun i a b => ?_, ?_, ?_, ?_, fun i hi => hi, fun i j _ _ h => h, ?_, fun w hw => ?_, fun q a b => ?_, fun i a b => ?_, fun c q hc a b => ?_⟩, fun q a b => ?_, ⟨e58, zz 57 0 (by omega), e52, ?_⟩, ?_, ?_⟩
  · show 0 ≤ us V 50 0 50 0 ∧ us V 50 0 50 0 ≤ 200
    rw [e50]; omega
  · have b2 : i < us V 50 0 50 0 := b
    rw [e50] at b2; omega
  · show 1 ≤ us V 50 0 51 0 ∧ us V 50 0 51 0 ≤ 8
    rw [e51]; omega
  · show (0 ≤ us V 50 0 53 0 ∧ us V 50 0 53 0 ≤ 9) ∧ (0 ≤ us V 50 0 54 0 ∧ us V 50 0 54 0 ≤ 9) ∧ (0 ≤ us V 50 0 55 0 ∧ us V 50 0 55 0 ≤ 9)
    rw [e53, e54, e55]; omega
  · show (0 ≤ (600 : Int) ∧ (600 : Int) ≤ 600) ∧ (0 ≤ us V 50 0 52 0 ∧ us V 50 0 52 0 ≤ 8 * 600 + 8) ∧ (0 ≤ us V 50 0 56 0 ∧ us V 50 0 56 0 ≤ 2) ∧ (0 ≤ us V 50 0 57 0 ∧ us V 50 0 57 0 ≤ 600) ∧ (1 ≤ us V 50 0 58 0 ∧ us V 50 0 58 0 ≤ 600 + 1) ∧ (0 ≤ us V 50 0 59 0 ∧ us V 50 0 59 0 < 65521) ∧ (0 ≤ us V 50 0 61 0 ∧ us V 50 0 61 0 ≤ 8 * 600) ∧ (0 ≤ us V 50 0 62 0 ∧ us V 50 0 62 0 ≤ 8 * 600) ∧ (0 ≤ us V 50 0 63 0 ∧ us V 50 0 63 0 ≤ 6)
    rw [e52, e56, zz 57 0 (by omega), e58, e59, zz 61 0 (by omega), zz 62 0 (by omega), zz 63 0 (by omega)]; omega
  · intro x a b
    have b2 : x < us V 50 0 51 0 := b
    rw [e51] at b2
    exact key x a b2
  · show (0 ≤ us V 50 0 8 (w : Int) ∧ us V 50 0 8 (w : Int) ≤ 6) ∧ ∀ i : Int, 0 ≤ i → i < us V 50 0 8 (w : Int) → _
    rw [e8]
    exact ⟨by omega, fun i a b => absurd b (by omega)⟩
  · show (-100000 ≤ us V 50 0 10 q ∧ us V 50 0 10 q ≤ 100000) ∧ (0 ≤ us V 50 0 11 q ∧ us V 50 0 11 q < 1099511627776) ∧ (0 ≤ us V 50 0 12 q ∧ us V 50 0 12 q ≤ 100000) ∧ (-1000 ≤ us V 50 0 13 q ∧ us V 50 0 13 q ≤ 1000)
    rw [zz 10 q (by omega), zz 11 q (by omega), zz 12 q (by omega), zz 13 q (by omega)]; omega
  · show 0 ≤ us V 50 0 14 i ∧ us V 50 0 14 i < 1099511627776
    rw [zz 14 i (by omega)]; omega
  · show -1 ≤ us V 50 0 (40 + c) q ∧ us V 50 0 (40 + c) q < 12
    rw [zz _ q (by omega)]; omega
  · show us V 50 0 12 q ≤ 1
    rw [zz 12 q (by omega)]; omega
  · show us V 50 0 61 0 + us V 50 0 62 0 = 0
    rw [zz 61 0 (by omega), zz 62 0 (by omega)]; rfl
  · show 0 ≤ us V 50 0 61 0 ∧ us V 50 0 61 0 ≤ 0
    rw [zz 61 0 (by omega)]; omega
  · show 0 ≤ us V 50 0 62 0 ∧ us V 50 0 62 0 ≤ 0
    rw [zz 62 0 (by omega)]; omega
theorem LB_fr70 {B AG TK h sm : Int} {S S1 : St} (hI : LB B AG TK h sm S) (hP : S1.2 = S.2) (f : ∀ (c2 : Nat) (i : Int), c2 < 70 → S1.1 c2 i = S.1 c2 i) : LB B AG TK h sm S1 := by
  obtain ⟨⟨c1, c2, c3, c4, c5, c6, c7, c8, c9, c10, c11, c12⟩, k1, a1, a2, a3⟩ := hI
  refine ⟨⟨?_, ?_, ?_, ?_, ?_, ?_, ?_, ?_, ?_, KR_fr (fun c i _ _ => f c i (by omega)) c10, ?_, nxi_fr (fun c i hc => f c i (by omega)) c12⟩, ?_, ⟨?_, ?_, ?_, ?_⟩, ?_, ?_⟩
  · rw [f 50 _ (by decide)]; exact c1
  · rw [f 50 _ (by decide)]; exact fun i a b => by rw [f 0 _ (by decide)]; exact c2 i a b
  · rw [f 51 _ (by decide)]; exact c3
  · rw [f 53 _ (by decide), f 54 _ (by decide), f 55 _ (by decide)]; exact c4
  · rw [f 52 _ (by decide), f 56 _ (by decide), f 57 _ (by decide), f 58 _ (by decide), f 59 _ (by decide), f 61 _ (by decide), f 62 _ (by decide), f 63 _ (by decide)]; exact c5
  · rw [hP]; exact c6
  · rw [hP]; exact c7
  · rw [f 51 _ (by decide), hP]
    exact fun x a b => NmOK_fr (fun c i hc => f c i (by omega)) (c6 _ (by omega)) (c8 x a b)
  · intro w hw4
    rw [f 8 _ (by decide)]
    refine ⟨(c9 w hw4).1, fun i a b => ?_⟩
    rw [f (16 + w) i (by omega)]; exact (c9 w hw4).2 i a b
  · intro i a b; rw [f 14 i (by decide)]; exact c11 i a b
  · intro q a b; rw [f 12 q (by decide)]; exact k1 q a b
  · rw [f 58 _ (by decide)]; exact a1.1
  · rw [f 57 _ (by decide)]; exact a1.2.1
  · rw [f 52 _ (by decide)]; exact a1.2.2.1
  · rw [f 61 _ (by decide), f 62 _ (by decide)]; exact a1.2.2.2
  · rw [f 61 _ (by decide)]; exact a2
  · rw [f 62 _ (by decide)]; exact a3
/-! words of the law: y's letters -/
def VW (y k : Int) : Int → Int := fun j => if j = 0 then k else lt8 (shr y (3 * j) % 8)
theorem VW_ok {y k : Int} (h : 0 ≤ k ∧ k ≤ 6) : VOK (VW y k) := by
  refine ⟨h, fun i a b => ?_⟩
  unfold VW
  rw [if_neg (by omega)]
  exact lt8_l (by omega)
theorem VW_h {y k : Int} : VW y k 0 = k := rfl
theorem VW_k {y k j : Int} (h : ¬ j = 0) : VW y k j = lt8 (shr y (3 * j) % 8) := if_neg h
/-- the array holds y's first k letters -/
def WA (V : Int → Int) (y k : Int) : Prop := V 0 = k ∧ ∀ j : Int, 1 ≤ j → j ≤ k → V j = lt8 (shr y (3 * j) % 8)
section WAS
variable {T X V PK : Int → Int} {B AG TK KP h y k : Int} {S : St}
theorem WA_ok (h : 0 ≤ k ∧ k ≤ 6) (w : WA V y k) : VOK V := by
  obtain ⟨w1, w2⟩ := w
  refine ⟨by omega, fun i a b => ?_⟩
  rw [w2 (1 + i) (by omega) (by omega)]
  exact lt8_l (by omega)
theorem LI_vv {V2 : Int → Int} (hI : LI T X V PK B AG TK KP h S) (h0 : V2 0 = V 0) (hv : ∀ j : Int, 0 ≤ j → j < V 0 → V2 (1 + j) = V (1 + j)) : LI T X V2 PK B AG TK KP h S := by
  obtain ⟨c, n, ⟨w1, w2⟩, r⟩ := hI
  exact ⟨c, n, ⟨by rw [w1, h0], fun i a b => by rw [hv i a (by omega)]; exact w2 i a (by omega)⟩, r⟩
theorem LI_VW (w : WA V y k) (hI : LI T X V PK B AG TK KP h S) : LI T X (VW y k) PK B AG TK KP h S := LI_vv hI (by rw [w.1, VW_h]) (fun j a b => by rw [VW_k (by omega), w.2 (1 + j) (by omega) (by have := w.1; omega)])
theorem PS_vv {V2 : Int → Int} {i : Int} (hk : 0 ≤ V 0) (h0 : V2 0 = V 0) (hv : ∀ j : Int, 0 ≤ j → j < V 0 → V2 (1 + j) = V (1 + j)) : PSs T X V2 i ↔ PSs T X V i := by
  unfold PSs
  rw [h0, wlb_congr (f := Vl V2) (f2 := Vl V) _ (fun j a b => hv j a (by omega))]
theorem psP_VW (hk : 0 ≤ k) (w : WA V y k) (n : Nat) : psb (PSs T X V) n = psb (PSs T X (VW y k)) n := psb_congr n (fun i _ _ => (PS_vv (V := V) (V2 := VW y k) (by rw [w.1]; exact hk) (by rw [w.1, VW_h]) (fun j a b => by rw [VW_k (by omega), w.2 (1 + j) (by omega) (by have := w.1; omega)])).symm)
theorem psS_VW (hT : TOK T X) (hk : 0 ≤ k ∧ k ≤ 6) (w : WA V y k) (n : Nat) (hn : (n : Int) = T 0) : psb (fun y_ => ¬ SC T X V y_ = -4) n = psb (fun y_ => ¬ SC T X (VW y k) y_ = -4) n := psb_congr n (fun i a b => by
  rw [SC_vv (V := V) (V2 := VW y k) hT ⟨a, by omega⟩ (WA_ok hk w) (by rw [w.1, VW_h]) (fun j a b => by rw [VW_k (by omega), w.2 (1 + j) (by omega) (by have := w.1; omega)])])
/-- with a letter more nobody passes who did not -/
theorem PS_mono (hk : 0 ≤ k) {i : Int} (h : PSs T X (VW y (k + 1)) i) : PSs T X (VW y k) i := by
  unfold PSs at *
  rw [bandn_0] at h ⊢
  intro q hq
  refine h q ?_
  rw [wlb_bit] at hq ⊢
  obtain ⟨j, j1, j2⟩ := hq
  rw [VW_h] at j1
  refine ⟨j, by rw [VW_h]; omega, ?_⟩
  rw [← j2]
  show (lnum (VW y (k + 1) (1 + (j : Int)))).toNat = (lnum (VW y k (1 + (j : Int)))).toNat
  rw [VW_k (by omega), VW_k (by omega)]
theorem cwv_mn {s f : Int → Int} {kd : Int} : ∀ n m : Nat, cwv s f kd n m ≤ cwv s f kd (n + 1) m
  | 0, 0 => by rw [cwv, cwv]; omega
  | n + 1, 0 => by rw [cwv, cwv]; omega
  | n, m + 1 => by
    have := (cwv_r (sg := s) (f := f) (kd := kd) n m).1
    rw [show cwv s f kd (n + 1) (m + 1) = cwv s f kd n (m + 1) + (if alk (s n) kd (f m) then cwv s f kd n m else 0) by rw [cwv]]
    split <;> omega
theorem cwv_px {s f : Int → Int} {kd : Int} : ∀ n m : Nat, 0 < cwv s f kd n (m + 1) → 0 < cwv s f kd n m
  | 0, m, h => by rw [cwv] at h; omega
  | n + 1, m, h => by
    have h1 := cwv_mn (s := s) (f := f) (kd := kd) n m
    have h2 := (cwv_r (sg := s) (f := f) (kd := kd) n (m + 1)).1
    have h3 := (cwv_r (sg := s) (f := f) (kd := kd) n m).1
    rw [cwv] at h
    by_cases z : 0 < cwv s f kd n (m + 1)
    · have := cwv_px n m z; omega
    · split at h <;> omega
theorem SC_mono (hT : TOK T X) (hk : 0 ≤ k ∧ k + 1 ≤ 6) {i : Int} (hi : 0 ≤ i ∧ i < T 0) (h : ¬ SC T X (VW y (k + 1)) i = -4) : ¬ SC T X (VW y k) i = -4 := by
  rw [← WY_SC hT (VW_ok (by omega)) hi] at h ⊢
  unfold WY at *
  rw [VW_h] at h ⊢
  rw [show (k + 1).toNat = k.toNat + 1 by omega] at h
  have e := cwv_px _ _ h
  rw [cwv_cs (v := SG X i) (g_ := Vl (VW y (k + 1))) _ _ (fun _ _ _ => rfl) (fun j a b => by
    show VW y k (1 + j) = VW y (k + 1) (1 + j)
    rw [VW_k (by omega), VW_k (by omega)])]
  exact e
/-- without letters all pass -/
theorem PS_e {i : Int} (h0 : V 0 = 0) : PSs T X V i := by
  unfold PSs
  rw [h0, bandn_0]
  intro q hq
  rw [wlb_bit] at hq
  obtain ⟨j, j1, -⟩ := hq
  omega
theorem SC_e {i : Int} (h0 : V 0 = 0) : ¬ SC T X V i = -4 := by unfold SC wor; rw [if_pos h0]; omega
theorem CD_e (h0 : V 0 = 0) : CD V = 0 := by unfold CD; rw [h0]; rfl
end WAS
