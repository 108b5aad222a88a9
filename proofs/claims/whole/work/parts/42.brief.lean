/-! brief, lay: both sides -/
section BRI
theorem briP_u {Q R : Int → Int → Prop} {r r2 : Int} (h : ∀ u z : Int, 1 ≤ u → u ≤ 26 → 0 ≤ z → z ≤ 26 → (Q u z ↔ R u z)) (h1 : briP Q r) (h2 : briP R r2) : r = r2 := by
  rcases h1 with ⟨a, a1, a2, a3, a4⟩ | ⟨a, b, a1, b1, a2, a3, a4, a5, a6⟩ | ⟨a2, a4, a5⟩
  · have q := (h a 0 a1.1 a1.2 (by omega) (by omega)).mp a3
    rcases h2 with ⟨c, c1, c2, c3, c4⟩ | ⟨c, d, c1, d1, c2, c3, c4, c5, c6⟩ | ⟨c2, c4, c5⟩
    · have w := (h c 0 c1.1 c1.2 (by omega) (by omega)).mpr c3
      rcases Int.lt_or_le a c with z | z
      · exact absurd q (c4 a a1.1 z)
      · rcases Int.lt_or_le c a with y | y
        · exact absurd w (a4 c c1.1 y)
        · rw [a2, c2, show a = c by omega]
    · exact absurd q (c4 a a1.1 a1.2)
    · exact absurd q (c4 a a1.1 a1.2)
  · have q := (h a b a1.1 a1.2 (by omega) b1.2).mp a3
    rcases h2 with ⟨c, c1, c2, c3, c4⟩ | ⟨c, d, c1, d1, c2, c3, c4, c5, c6⟩ | ⟨c2, c4, c5⟩
    · exact absurd ((h c 0 c1.1 c1.2 (by omega) (by omega)).mpr c3) (a4 c c1.1 c1.2)
    · have w := (h c d c1.1 c1.2 (by omega) d1.2).mpr c3
      rcases Int.lt_or_le a c with z | z
      · exact absurd q (c5 a b a1.1 z b1.1 b1.2)
      · rcases Int.lt_or_le c a with y | y
        · exact absurd w (a5 c d c1.1 y d1.1 d1.2)
        · have e : a = c := by omega
          subst e
          rcases Int.lt_or_le b d with v | v
          · exact absurd q (c6 b b1.1 v)
          · rcases Int.lt_or_le d b with v2 | v2
            · exact absurd w (a6 d d1.1 v2)
            · rw [a2, c2, show b = d by omega]
    · exact absurd q (c5 a b a1.1 a1.2 b1.1 b1.2)
  · rcases h2 with ⟨c, c1, c2, c3, c4⟩ | ⟨c, d, c1, d1, c2, c3, c4, c5, c6⟩ | ⟨c2, c4, c5⟩
    · exact absurd ((h c 0 c1.1 c1.2 (by omega) (by omega)).mpr c3) (a4 c c1.1 c1.2)
    · exact absurd ((h c d c1.1 c1.2 (by omega) d1.2).mpr c3) (a5 c d c1.1 c1.2 d1.1 d1.2)
    · omega
theorem tm_r (z : Int) : 1 ≤ tm z ∧ tm z ≤ 2 := by unfold tm; split <;> omega
theorem tf_ltr {u z : Int} (hu : 1 ≤ u ∧ u ≤ 26) (hz : 0 ≤ z ∧ z ≤ 26) : ∀ k : Int, 0 ≤ k → k < tm z → ltr (tf u z k) := fun k a b => by
  unfold tm at b
  unfold tf ltr
  split at b
  · split <;> omega
  · rw [if_pos (by omega)]; omega
theorem fb_ff {S : St} {M : Nat → Int → Int} {n x u z : Int} (h : JJ S M n) (hx : 0 ≤ x ∧ x < S.1 51 0) (hu : 1 ≤ u ∧ u ≤ 26) (hz : 0 ≤ z ∧ z ≤ 26) : fbP S.1 S.2 (S.1 51 0) x u z ↔ ffM (M 2) (M 4) (M 3) (M 6) (tf u z) (M 7 0) (M 7 1) (M 7 2) (tm z) (M 51 0) x := by
  have hm := tm_r z
  have e51 := h.2.1.2.2.2.2.1
  have hsc : ∀ y : Int, 0 ≤ y → y < S.1 51 0 → (resS (fun z_ => M 2 (12 * y + z_)) (tf u z) (M 4 y) (M 7 0) (M 7 1) (M 7 2) (M 3 y) (tm z)).2.1 = scT S.1 S.2 u z y := fun y a b => by
    rw [MR h ⟨a, b⟩ (by omega) (fun _ _ _ => rfl), (MW h ⟨a, b⟩ (by omega)).1, wor_MR h ⟨a, b⟩]; rfl
  have h0 : (resS (fun z_ => M 2 (12 * x + z_)) (tf u z) (M 4 x) (M 7 0) (M 7 1) (M 7 2) (M 3 x) (tm z)).1 = 0 ↔ scT S.1 S.2 u z x = -4 := by
    rw [MR h hx (by omega) (fun _ _ _ => rfl)]
    have q := (MW (f := tf u z) (m := tm z) h hx (by omega)).2.1
    rw [wor_MR h hx] at q
    exact q
  have hr := h.2.1.2.2.2.2.2 x hx.1 hx.2
  have ho := h.2.1.2.2.2.1 x hx.1 hx.2
  have hp : ¬ scT S.1 S.2 u z x = -4 → bandn (wlb (tf u z) (tm z).toNat) (S.1 7 ((S.2 x.toNat : Nat) : Int)) = 0 := fun q => by
    have q2 := fun w => q (h0.mp w)
    rw [MR h hx (by omega) (fun _ _ _ => rfl)] at q2
    have ps := way_pass (by have := ho.1; omega) (by omega) (fun k a b => (hr.2.2.2.2.2.2 k a b).2) (tf_ltr hu hz) q2
    rw [hr.2.2.2.2.2.1, pass_iff (MSG h hx) (fun k hk => tf_ltr hu hz k (by omega) (by omega))]
    exact ps
  unfold fbP ffM
  rw [e51, ahoM_cq, cq_0, h0]
  have hpkx := hr.2.2.2.1
  have hnfx := hr.1
  constructor
  · rintro ⟨g1, g2, g3⟩
    refine ⟨g2, fun y a b q => ?_⟩
    have b2 : y < S.1 51 0 := by omega
    have hy := h.2.1.2.2.2.2.2 y a b2
    obtain ⟨q1, q2, q3⟩ := q
    rw [hsc y a b2] at q2 q3
    rw [hsc x hx.1 hx.2, hpkx, hnfx, hy.2.2.2.1, hy.1] at q3
    exact g3 y a b2 q1 q2 q3
  · rintro ⟨g2, g3⟩
    refine ⟨hp g2, g2, fun y a b c d e => ?_⟩
    have hy := h.2.1.2.2.2.2.2 y a b
    refine g3 y a (by omega) ⟨c, by rw [hsc y a b]; exact d, ?_⟩
    rw [hsc y a b, hsc x hx.1 hx.2, hpkx, hnfx, hy.2.2.2.1, hy.1]
    exact e
theorem op_brief {S : St} {M : St} {n r r2 : Int} {S1 M1 : St} {x : Int} (h : JJ S M.1 n) (hn : n < 600) (hc : po_X9_brief S x r S1) (hm : po_X10_brief M x r2 M1) : r = r2 ∧ JJ S1 M1.1 (n + 1) := by
  have e51 := h.2.1.2.2.2.2.1
  obtain ⟨c1, c2, c3, c4, c5⟩ := hc
  obtain ⟨m1, m2, m3⟩ := hm
  refine ⟨?_, JJ_sk h hn c1 (fun c i a b _ d e f => c2 c i a b d e f) c3 c4 m2⟩
  rcases c5 with ⟨a1, a2⟩ | ⟨a1, a2⟩
  · rcases m3 with ⟨b1, b2⟩ | ⟨b1, b2⟩
    · omega
    · exact absurd b1 (by omega)
  · rcases m3 with ⟨b1, b2⟩ | ⟨b1, b2⟩
    · exact absurd a1 (by omega)
    · exact briP_u (fun u z p q s t => fb_ff h a1 ⟨p, q⟩ ⟨s, t⟩) a2 b2
theorem hasS_iff (f : Int → Int) : ∀ n : Nat, hasS f n = true ↔ ∃ y : Int, (0 ≤ y ∧ y < n) ∧ f y = 115
  | 0 => ⟨fun h => (by rw [hasS] at h; cases h), fun ⟨y, h, _⟩ => absurd h.2 (by omega)⟩
  | n + 1 => by
    rw [hasS, Bool.or_eq_true, hasS_iff f n, decide_eq_true_iff]
    constructor
    · rintro (⟨y, h1, h2⟩ | h)
      · exact ⟨y, by omega, h2⟩
      · exact ⟨n, by omega, h⟩
    · rintro ⟨y, h1, h2⟩
      rcases Int.lt_or_le y n with z | z
      · exact Or.inl ⟨y, by omega, h2⟩
      · rw [show y = n by omega] at h2; exact Or.inr h2
theorem sgc_sg {f : Int → Int} : ∀ (n : Nat) (p k : Int), 0 ≤ k → k < sgc f p n → sgn (f (p + k))
  | 0, p, k, h0, h => by rw [sgc] at h; omega
  | n + 1, p, k, h0, h => by
    rw [sgc] at h
    by_cases q : (97 ≤ f p ∧ f p ≤ 122) ∨ (65 ≤ f p ∧ f p ≤ 90) ∨ f p = 95
    · rw [if_pos q] at h
      by_cases z : k = 0
      · rw [z, Int.add_zero]; exact q
      · have := sgc_sg (f := f) n (p + 1) (k - 1) (by omega) (by omega)
        rw [show p + 1 + (k - 1) = p + k by omega] at this
        exact this
    · rw [if_neg q] at h; omega
theorem lbv_congr {s v : Int → Int} : ∀ n : Nat, (∀ k : Int, 0 ≤ k → k < n → s k = v k) → lbv s n = lbv v n
  | 0, _ => rfl
  | n + 1, h => by rw [lbv, lbv, lbv_congr n (fun k a b => h k a (by omega)), h n (by omega) (by omega)]
theorem wsp_ex {t : Int → Int} : ∀ i : Nat, wsp t i = -1 ∨ ∃ k : Nat, k < i ∧ t (itm t k) = 119 ∧ wsp t i = itm t k
  | 0 => Or.inl rfl
  | i + 1 => by
    rw [wsp]
    by_cases h : t (itm t i) = 119
    · rw [if_pos h]; exact Or.inr ⟨i, by omega, h, rfl⟩
    · rw [if_neg h]
      rcases wsp_ex (t := t) i with e | ⟨k, a, b, c⟩
      · exact Or.inl e
      · exact Or.inr ⟨k, by omega, b, c⟩
section ITM
variable {S : St} {L : Int} {I : Nat}
theorem itm_r (ht : 0 ≤ S.1 50 0 ∧ S.1 50 0 ≤ 200) (hv : ∀ k : Nat, k < I → itm (txat S) k < S.1 50 0 ∧ ¬ bItm (txat S) (itm (txat S) k) = -1) : ∀ k : Nat, k ≤ I → 0 ≤ itm (txat S) k
  | 0, _ => by rw [itm]; omega
  | k + 1, h => by
    have h1 := itm_r ht hv k (by omega)
    have h2 := bItm_r ht (itm (txat S) k)
    have h3 := (hv k (by omega)).2
    rw [itm]
    omega
theorem bItm_w2 {f : Int → Int} {x : Int} (h : ¬ f x = 115) (hi : ¬ bItm f x = -1) : bItm f x = x + 7 ∧ f x = 119 ∧ (48 ≤ f (x + 1) ∧ f (x + 1) ≤ 48 + 9) ∧ f (x + 2) = 44 ∧ (48 ≤ f (x + 3) ∧ f (x + 3) ≤ 48 + 9) ∧ f (x + 4) = 44 ∧ (48 ≤ f (x + 5) ∧ f (x + 5) ≤ 48 + 9) ∧ f (x + 6) = 59 := by
  unfold bItm at hi ⊢
  rw [if_neg h] at hi ⊢
  by_cases q : f x = 119
  · rw [if_pos q] at hi ⊢
    unfold bWor at hi ⊢
    by_cases w : (48 ≤ f (x + 1) ∧ f (x + 1) ≤ 48 + 9) ∧ f (x + 2) = 44 ∧ (48 ≤ f (x + 3) ∧ f (x + 3) ≤ 48 + 9) ∧ f (x + 4) = 44 ∧ (48 ≤ f (x + 5) ∧ f (x + 5) ≤ 48 + 9) ∧ f (x + 6) = 59
    · rw [if_pos w]; exact ⟨rfl, q, w⟩
    · rw [if_neg w] at hi; exact absurd rfl hi
  · rw [if_neg q] at hi; exact absurd rfl hi
theorem no_s (ht : 0 ≤ S.1 50 0 ∧ S.1 50 0 ≤ 200) (hv : ∀ k : Nat, k < I → itm (txat S) k < S.1 50 0 ∧ ¬ bItm (txat S) (itm (txat S) k) = -1) (h0 : cnt (txat S) I = 0) : ∀ k : Nat, k ≤ I → ∀ y : Int, 0 ≤ y → y < itm (txat S) k → ¬ txat S y = 115
  | 0, _, y, a, b => by rw [itm] at b; omega
  | k + 1, h, y, a, b => by
    have hk : ¬ txat S (itm (txat S) k) = 115 := fun q => by
      have c1 := cnt_lt (show k < I by omega) q
      have c2 := cnt_0 (txat S) k
      omega
    obtain ⟨g0, g1, g2, g3, g4, g5, g6, g7⟩ := bItm_w2 hk (hv k (by omega)).2
    rw [itm, g0] at b
    rcases Int.lt_or_le y (itm (txat S) k) with z | z
    · exact no_s ht hv h0 k (by omega) y a z
    · have e : y = itm (txat S) k ∨ y = itm (txat S) k + 1 ∨ y = itm (txat S) k + 2 ∨ y = itm (txat S) k + 3 ∨ y = itm (txat S) k + 4 ∨ y = itm (txat S) k + 5 ∨ y = itm (txat S) k + 6 := by omega
      rcases e with e | e | e | e | e | e | e <;> rw [e] <;> omega
theorem hasS_cnt (ht : 0 ≤ S.1 50 0 ∧ S.1 50 0 ≤ 200) (hL : S.1 50 0 ≤ itm (txat S) I) (hv : ∀ k : Nat, k < I → itm (txat S) k < S.1 50 0 ∧ ¬ bItm (txat S) (itm (txat S) k) = -1) : hasS (S.1 0) (S.1 50 0).toNat = true ↔ 0 < cnt (txat S) I := by
  have tx : ∀ y : Int, 0 ≤ y → y < S.1 50 0 → txat S y = S.1 0 y := fun y a b => by unfold txat; rw [if_pos ⟨a, b⟩]
  rw [hasS_iff]
  constructor
  · rintro ⟨y, y1, y2⟩
    have c := cnt_0 (txat S) I
    rcases Int.lt_or_le 0 (cnt (txat S) I) with z | z
    · exact z
    · exact absurd (by rw [tx y y1.1 (by omega)]; exact y2) (no_s ht hv (by omega) I (Nat.le_refl I) y y1.1 (by omega))
  · intro h
    obtain ⟨k, k1, k2, k3⟩ := cnt_ex I 0 (by omega) h
    have i0 := itm_r ht hv k (by omega)
    have i1 := (hv k k1).1
    exact ⟨itm (txat S) k, by omega, by rw [← tx _ i0 i1]; exact k2⟩
theorem itm_u {t : Int → Int} {J : Nat} (h1 : L ≤ itm t I) (h2 : ∀ k : Nat, k < I → itm t k < L ∧ ¬ bItm t (itm t k) = -1) (h3 : L ≤ itm t J) (h4 : ∀ k : Nat, k < J → itm t k < L ∧ ¬ bItm t (itm t k) = -1) : I = J := by
  rcases Nat.lt_or_ge I J with z | z
  · have := (h4 I z).1; omega
  · rcases Nat.lt_or_ge J I with y | y
    · have := (h2 J y).1; omega
    · omega
theorem scv_r {t : Int → Int} (hv : ∀ k : Nat, k < I → itm t k < L ∧ ¬ bItm t (itm t k) = -1) : (0 ≤ scv t I 3 1 ∧ scv t I 3 1 ≤ 9) ∧ (0 ≤ scv t I 2 3 ∧ scv t I 2 3 ≤ 9) ∧ (0 ≤ scv t I 1 5 ∧ scv t I 1 5 ≤ 9) := by
  unfold scv
  by_cases h : wsp t I = -1
  · rw [if_pos h, if_pos h, if_pos h]; omega
  · rw [if_neg h, if_neg h, if_neg h]
    rcases wsp_ex (t := t) I with e | ⟨k, a, b, c⟩
    · exact absurd e h
    · rw [c]
      have := bItm_w b (hv k a).2
      omega
end ITM
theorem op_lay {S : St} {M : St} {n r r2 : Int} {S1 M1 : St} (h : JJ S M.1 n) (hn : n < 600) (hc : po_X9_lay S r S1) (hm : po_X10_lay M (M.1 1) (M.1 50 0) r2 M1) : r = r2 ∧ JJ S1 M1.1 (n + 1) := by
  obtain ⟨hT, hN, hS, hW, hC, hH, hA, hK, hX⟩ := id h
  have et := ltx_txt hT
  have ht := hT.1
  have e50 := hT.2.2.1
  obtain ⟨m1, Q, mf, mp, m3⟩ := hm
  rw [et, e50] at mp m3
  have no : ((¬ flt (txat S) (S.1 50 0) 200 0 0 = -4 ∨ ¬ hasS (S.1 0) (S.1 50 0).toNat = true) ∧ r = -2 ∧ S1 = S) → ((¬ flt (txat S) (S.1 50 0) 200 0 0 = -4 ∨ Q 52 0 = 0) ∧ r2 = -2 ∧ M1.1 = Q) → r = r2 ∧ JJ S1 M1.1 (n + 1) := fun a b => by
    rw [a.2.2, b.2.2]
    refine ⟨by omega, JJ_of ?_ ?_ ?_ ?_ ?_ ?_ ?_ ?_ hX⟩
    · exact JT_fr (fun _ _ _ => rfl) (fun c i hc => mf c i (by omega) (by omega)) hT
    · exact JN_fr (fun _ _ _ => rfl) (fun c i hc => mf c i (by omega) (by omega)) hN
    · exact JS_fr (fun _ _ _ => rfl) (fun c i hc => mf c i (by omega) (by omega)) hS
    · exact JW_fr (fun _ _ _ => rfl) (fun c i hc => mf c i (by omega) (by omega)) hW
    · exact JC_fr hn (fun _ _ _ => rfl) (fun c i hc => mf c i (by omega) (by omega)) hC
    · exact JH_fr (fun _ _ _ => rfl) (fun c i hc => mf c i (by omega) (by omega)) hH
    · exact JA_fr (fun _ _ _ => rfl) (fun c i hc => mf c i (by omega) (by omega)) hA
    · exact JK_fr (fun _ _ _ => rfl) (fun c i hc => mf c i (by omega) (by omega)) hK
  rcases hc with a | ⟨a1, a2, a3, a4, a5⟩
  · rcases m3 with b | ⟨b1, b2, b3, U, b4, b5⟩
    · exact no a b
    · exfalso
      obtain ⟨I, p1, p2, p3, p4⟩ := mp b1
      have hs := (hasS_cnt ht p1 p2).mpr (by have := cnt_0 (txat S) I; have := p4.1; omega)
      rcases a.1 with z | z
      · exact z b1
      · exact z hs
  · rcases m3 with b | ⟨b1, b2, b3, U, b4, b5⟩
    · exfalso
      obtain ⟨I, p1, p2, p3, p4⟩ := mp a1
      have hs := (hasS_cnt ht p1 p2).mp a2
      rcases b.1 with z | z
      · exact z a1
      · have := p4.1; omega
    · obtain ⟨I, p1, p2, p3, p4⟩ := mp b1
      obtain ⟨J, V, q1, q2, q3, q4, q5⟩ := a4
      have eJ : J = I := itm_u q1 q2 p1 p2
      subst eJ
      obtain ⟨l1, l2, l3, l4, l5, l6, l7⟩ := q4
      obtain ⟨d1, d2, d3, d4, d5⟩ := p4
      obtain ⟨u1, u2, u3, u4⟩ := b4
      have c0 := cnt_0 (txat S) J
      have hsv := scv_r p2
      have hC2 := hC
      unfold JC at hC2
      -- frames
      have fC : ∀ (c : Nat) (i : Int), ¬ (2 ≤ c ∧ c ≤ 7) → ¬ (20 ≤ c ∧ c < 28) → ¬ (51 ≤ c ∧ c ≤ 55) → ¬ c = 8 → ¬ c = 56 → ¬ c = 58 → S1.1 c i = S.1 c i := fun c i x1 x2 x3 x4 x5 x6 => by rw [q5, us_nc x6, us_nc x5, ua_nc x4]; exact l7 c i x1 x2 x3
      have fV : ∀ (c : Nat) (i : Int), ¬ c = 8 → ¬ c = 56 → ¬ c = 58 → S1.1 c i = V c i := fun c i x4 x5 x6 => by rw [q5, us_nc x6, us_nc x5, ua_nc x4]
      have fU : ∀ (c : Nat) (i : Int), ¬ c = 7 → ¬ c = 57 → ¬ c = 53 → ¬ c = 54 → M1.1 c i = U c i := fun c i x4 x5 x6 x7 => by rw [b5, us_nc x7, us_nc x6, us_nc x5, ua_nc x4, ua_nc x4, ua_nc x4]
      have fM : ∀ (c : Nat) (i : Int), ¬ (2 ≤ c ∧ c ≤ 11) → ¬ (51 ≤ c ∧ c ≤ 55) → ¬ c = 57 → M1.1 c i = M.1 c i := fun c i x1 x2 x3 => ((fU c i (by omega) x3 (by omega) (by omega)).trans (u4 c i (by omega) (by omega) (by omega))).trans (mf c i (by omega) (by omega))
      have e52 : Q 52 0 = cnt (txat S) J := d1
      have g51 : S1.1 51 0 = cnt (txat S) J := (fV 51 0 (by decide) (by decide) (by decide)).trans l1
      have k51 : M1.1 51 0 = cnt (txat S) J := ((fU 51 0 (by decide) (by decide) (by decide) (by decide)).trans u2).trans e52
      have hpi := hN.2.1
      refine ⟨by rw [a5, g51, b3, e52], JJ_of ?_ ?_ ?_ ?_ ?_ ?_ ?_ ?_ ?_⟩
      · exact JT_fr (fun c i hc => fC c i (by omega) (by omega) (by omega) (by omega) (by omega) (by omega)) (fun c i hc => fM c i (by omega) (by omega) (by omega)) hT
      · have key : ∀ x : Int, 0 ≤ x → x < cnt (txat S) J → NmOK S1.1 (S.2 x.toNat) ∧ RN S1.1 M1.1 (S.2 x.toNat) x := fun x x0 x1 => by
          obtain ⟨k, k1, k2, k3⟩ := cnt_ex J x x0 x1
          obtain ⟨w1, w2, w3, w4, w5⟩ := bItm_n k2 (p2 k k1).2
          have hl := l6 k k1 k2
          have hd := d5 k k1 k2
          have hu := u1 x x0 (by omega)
          have hp := hpi x.toNat (by omega)
          rw [k3] at hl hd
          obtain ⟨v1, v2, v3, v4, v5, v6, v7⟩ := hl
          obtain ⟨y1, y2, y3⟩ := hd
          obtain ⟨z1, z2, z3, z4, z5⟩ := hu
          have fV2 : ∀ (c : Nat) (i : Int), (2 ≤ c ∧ c ≤ 7) ∨ (20 ≤ c ∧ c < 28) → S1.1 c i = V c i := fun c i hc => fV c i (by omega) (by omega) (by omega)
          have fU2 : ∀ (c : Nat) (i : Int), (2 ≤ c ∧ c ≤ 6) → M1.1 c i = U c i := fun c i hc => fU c i (by omega) (by omega) (by omega) (by omega)
          have e20 : S1.1 (20 + S.2 x.toNat) = V (20 + S.2 x.toNat) := funext (fun i => fV2 _ i (by omega))
          have hb := bgv_r (fun k_ => txat S ((itm (txat S) k + 3) + k_)) (sgc (txat S) (itm (txat S) k + 3) 13).toNat (by omega)
          have hlb := lbv_r (fun k_ => txat S ((itm (txat S) k + 3) + k_)) (sgc (txat S) (itm (txat S) k + 3) 13).toNat
          have hsg : ∀ i : Int, 0 ≤ i → i < sgc (txat S) (itm (txat S) k + 3) 13 → sgn (V (20 + S.2 x.toNat) i) := fun i i0 i1 => by rw [v7 i i0 i1]; exact sgc_sg 13 _ i i0 i1
          constructor
          · unfold NmOK
            rw [fV2 2 _ (by omega), fV2 3 _ (by omega), fV2 4 _ (by omega), fV2 5 _ (by omega), fV2 6 _ (by omega), fV2 7 _ (by omega), e20, v1, v2, v3, v4, v5, v6]
            refine ⟨by omega, by omega, by omega, by omega, hb, hlb, fun i i0 i1 => ?_⟩
            have := hsg i i0 i1
            unfold sgn at this
            omega
          · unfold RN
            rw [fV2 2 _ (by omega), fV2 3 _ (by omega), fV2 4 _ (by omega), fV2 5 _ (by omega), fV2 6 _ (by omega), fV2 7 _ (by omega), e20, v1, v2, v3, v4, v5, v6, fU2 3 _ (by omega), fU2 4 _ (by omega), fU2 5 _ (by omega), fU2 6 _ (by omega), z1, z2, z3, z4, y1, y2, mf 55 0 (by decide) (by decide), hC.2.1]
            refine ⟨rfl, rfl, rfl, rfl, bgv_congr _ (fun i i0 i1 => (v7 i i0 (by omega)).symm), lbv_congr _ (fun i i0 i1 => (v7 i i0 (by omega)).symm), fun i i0 i1 => ⟨?_, hsg i i0 i1⟩⟩
            rw [fU2 2 _ (by omega), z5 i i0 (by omega), y3 i i0 i1, v7 i i0 i1]
        rw [a3]
        unfold JN
        rw [g51, k51]
        exact ⟨by omega, hpi, hN.2.2.1, fun x p q => (key x p q).1, rfl, fun x p q => (key x p q).2⟩
      · unfold JS
        rw [fV 53 0 (by decide) (by decide) (by decide), fV 54 0 (by decide) (by decide) (by decide), fV 55 0 (by decide) (by decide) (by decide), l3, l4, l5, b5, us_nc (by decide), us_nc (by decide), us_nc (by decide), ua_ni (by decide), ua_ni (by decide), ua_eq, us_nc (by decide), us_nc (by decide), us_nc (by decide), ua_ni (by decide), ua_eq, us_nc (by decide), us_nc (by decide), us_nc (by decide), ua_eq]
        exact ⟨hsv, d2, d3, d4⟩
      · obtain ⟨w1, w2, w3, w4, w5⟩ := hW
        have s8 : ∀ w : Nat, ¬ w = 0 → S1.1 8 (w : Int) = S.1 8 (w : Int) := fun w hw => by rw [q5, us_nc (by decide), us_nc (by decide), ua_ni (by omega)]; exact l7 8 _ (by decide) (by decide) (by decide)
        have s80 : S1.1 8 0 = 0 := by rw [q5, us_nc (by decide), us_nc (by decide), ua_eq]
        have s16 : ∀ (w : Nat) (i : Int), w < 4 → S1.1 (16 + w) i = S.1 (16 + w) i := fun w i hw => fC _ i (by omega) (by omega) (by omega) (by omega) (by omega) (by omega)
        have s56 : S1.1 56 0 = 0 := by rw [q5, us_nc (by decide), us_eq]
        refine ⟨fun w hw => ?_, by rw [s56]; omega, ⟨?_, fun i p q => ?_⟩, ?_, fun q hq => ?_⟩
        · by_cases z : w = 0
          · subst z
            have s80' : S1.1 8 ((0 : Nat) : Int) = 0 := s80
            rw [s80']
            exact ⟨by omega, fun i p q => absurd q (by omega)⟩
          · rw [s8 w z]
            refine ⟨(w1 w hw).1, fun i p q => ?_⟩
            rw [s16 w i hw]; exact (w1 w hw).2 i p q
        · rw [s80, b5, us_nc (by decide), us_eq]
        · rw [s80] at q; omega
        · rw [s56, b5, us_eq]
        · rw [s56] at hq; omega
      · unfold JC
        have g52 : S1.1 52 0 = S.1 52 0 + cnt (txat S) J := (fV 52 0 (by decide) (by decide) (by decide)).trans l2
        have g57 : S1.1 57 0 = S.1 57 0 := fC 57 0 (by decide) (by decide) (by decide) (by decide) (by decide) (by decide)
        have g58 : S1.1 58 0 = S.1 58 0 + 1 := by rw [q5, us_eq]
        have g59 : S1.1 59 0 = S.1 59 0 := fC 59 0 (by decide) (by decide) (by decide) (by decide) (by decide) (by decide)
        have k55 : M1.1 55 0 = Q 55 0 + Q 52 0 := (fU 55 0 (by decide) (by decide) (by decide) (by decide)).trans u3
        have k56 : M1.1 56 0 = M.1 56 0 := fM 56 0 (by decide) (by decide) (by decide)
        have k57 : M1.1 57 0 = Q 57 0 + 1 := by rw [b5, us_nc (by decide), us_nc (by decide), us_eq]
        have k60 : M1.1 60 0 = M.1 60 0 := fM 60 0 (by decide) (by decide) (by decide)
        have r55 := mf 55 0 (by decide) (by decide)
        have r57 := mf 57 0 (by decide) (by decide)
        omega
      · exact JH_fr (fun c i hc => fC c i (by omega) (by omega) (by omega) (by omega) (by omega) (by omega)) (fun c i hc => fM c i (by omega) (by omega) (by omega)) hH
      · exact JA_fr (fun c i hc => fC c i (by omega) (by omega) (by omega) (by omega) (by omega) (by omega)) (fun c i hc => fM c i (by omega) (by omega) (by omega)) hA
      · exact JK_fr (fun c i hc => fC c i (by omega) (by omega) (by omega) (by omega) (by omega) (by omega)) (fun c i hc => fM c i (by omega) (by omega) (by omega)) hK
      · exact nxi_fr (fun c i hc => fC c i (by omega) (by omega) (by omega) (by omega) (by omega) (by omega)) hX
end BRI
