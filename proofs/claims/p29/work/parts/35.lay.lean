/-! a text told by the law's numbers, and what is laid by it -/
def oF (T : Int → Int) : Nat → Int
  | 0 => 0
  | i + 1 => oF T i + 4 + T (1 + (i : Int))
/-- the text's letters -/
def SP (T X g : Int → Int) : Prop := (∀ j : Nat, (j : Int) < T 0 → g (oF T j) = 115 ∧ g (oF T j + 1) = 48 + T (9 + (j : Int)) ∧ g (oF T j + 2) = 44 ∧ (∀ k : Int, 0 ≤ k → k < T (1 + (j : Int)) → g (oF T j + 3 + k) = SG X j k) ∧ g (oF T j + 3 + T (1 + (j : Int))) = 59) ∧ (g (oF T (T 0).toNat) = 119 ∧ g (oF T (T 0).toNat + 1) = 48 + T 17 ∧ g (oF T (T 0).toNat + 2) = 44 ∧ g (oF T (T 0).toNat + 3) = 48 + T 18 ∧ g (oF T (T 0).toNat + 4) = 44 ∧ g (oF T (T 0).toNat + 5) = 48 + T 19 ∧ g (oF T (T 0).toNat + 6) = 59)
section TXT
variable {T X : Int → Int}
theorem oF_r (hT : TOK T X) : ∀ i : Nat, (i : Int) ≤ T 0 → 5 * (i : Int) ≤ oF T i ∧ oF T i ≤ 16 * (i : Int)
  | 0, _ => by rw [oF]; omega
  | i + 1, h => by
    have ih := oF_r hT i (by omega)
    have hn := (nm_sz hT (i := i) (by omega)).1
    rw [oF]; omega
theorem oF_m (hT : TOK T X) {i : Nat} : ∀ k : Nat, i < k → (k : Int) ≤ T 0 → oF T i + 4 + T (1 + (i : Int)) ≤ oF T k
  | 0, h, _ => absurd h (by omega)
  | k + 1, h, hk => by
    rcases Nat.lt_or_ge i k with z | z
    · have ih := oF_m hT k z (by omega)
      have hn := (nm_sz hT (i := k) (by omega)).1
      rw [oF]; omega
    · rw [show k = i by omega, oF]; omega
def tfn (T X : Int → Int) : Nat → Int → Int
  | 0 => fun _ => 0
  | i + 1 => fun k => if k < oF T i then tfn T X i k else if k = oF T i then 115 else if k = oF T i + 1 then 48 + T (9 + (i : Int)) else if k = oF T i + 2 then 44 else if k < oF T i + 3 + T (1 + (i : Int)) then SG X i (k - oF T i - 3) else 59
def txf (T X : Int → Int) : Int → Int := fun k => if k < oF T (T 0).toNat then tfn T X (T 0).toNat k else if k = oF T (T 0).toNat then 119 else if k = oF T (T 0).toNat + 1 then 48 + T 17 else if k = oF T (T 0).toNat + 2 then 44 else if k = oF T (T 0).toNat + 3 then 48 + T 18 else if k = oF T (T 0).toNat + 4 then 44 else if k = oF T (T 0).toNat + 5 then 48 + T 19 else 59
theorem tfn_low (hT : TOK T X) {i : Nat} {x : Int} (hx : x < oF T i) : ∀ k : Nat, i ≤ k → (k : Int) ≤ T 0 → tfn T X k x = tfn T X i x
  | 0, h, _ => by rw [show i = 0 by omega]
  | k + 1, h, hk => by
    rcases Nat.lt_or_ge k i with z | z
    · rw [show i = k + 1 by omega]
    · have e : oF T i ≤ oF T k := by
        rcases Nat.lt_or_ge i k with w | w
        · have := oF_m hT k w (by omega)
          have hn := (nm_sz hT (i := i) (by omega)).1
          omega
        · rw [show i = k by omega]; exact Int.le_refl _
      rw [tfn]
      dsimp only
      rw [if_pos (by omega)]
      exact tfn_low hT hx k z (by omega)
theorem SP_txf (hT : TOK T X) : SP T X (txf T X) := by
  have h0 := hT.1
  refine ⟨fun j hj => ?_, ?_⟩
  · have hn := (nm_sz hT (i := j) (by omega)).1
    have e : ∀ x : Int, x < oF T (j + 1) → txf T X x = tfn T X (j + 1) x := fun x hx => by
      have hm : oF T (j + 1) ≤ oF T (T 0).toNat := by
        rcases Nat.lt_or_ge (j + 1) (T 0).toNat with w | w
        · have := oF_m hT (T 0).toNat w (by omega)
          have hn := (nm_sz hT (i := ((j + 1 : Nat) : Int)) (by omega)).1
          omega
        · rw [show (T 0).toNat = j + 1 by omega]; exact Int.le_refl _
      unfold txf
      rw [if_pos (by omega)]
      exact tfn_low hT hx _ (by omega) (by omega)
    have eo : oF T (j + 1) = oF T j + 4 + T (1 + (j : Int)) := by rw [oF]
    refine ⟨?_, ?_, ?_, fun k a b => ?_, ?_⟩
    · rw [e _ (by omega), tfn]; dsimp only; rw [if_neg (by omega), if_pos rfl]
    · rw [e _ (by omega), tfn]; dsimp only; rw [if_neg (by omega), if_neg (by omega), if_pos rfl]
    · rw [e _ (by omega), tfn]; dsimp only; rw [if_neg (by omega), if_neg (by omega), if_neg (by omega), if_pos rfl]
    · rw [e _ (by omega), tfn]; dsimp only; rw [if_neg (by omega), if_neg (by omega), if_neg (by omega), if_neg (by omega), if_pos (by omega)]
      rw [show oF T j + 3 + k - oF T j - 3 = k by omega]
    · rw [e _ (by omega), tfn]; dsimp only; rw [if_neg (by omega), if_neg (by omega), if_neg (by omega), if_neg (by omega), if_neg (by omega)]
  · unfold txf
    generalize oF T (T 0).toNat = o
    refine ⟨?_, ?_, ?_, ?_, ?_, ?_, ?_⟩
    · rw [if_neg (by omega), if_pos (by omega)]
    · rw [if_neg (by omega), if_neg (by omega), if_pos (by omega)]
    · rw [if_neg (by omega), if_neg (by omega), if_neg (by omega), if_pos (by omega)]
    · rw [if_neg (by omega), if_neg (by omega), if_neg (by omega), if_neg (by omega), if_pos (by omega)]
    · rw [if_neg (by omega), if_neg (by omega), if_neg (by omega), if_neg (by omega), if_neg (by omega), if_pos (by omega)]
    · rw [if_neg (by omega), if_neg (by omega), if_neg (by omega), if_neg (by omega), if_neg (by omega), if_neg (by omega), if_pos (by omega)]
    · rw [if_neg (by omega), if_neg (by omega), if_neg (by omega), if_neg (by omega), if_neg (by omega), if_neg (by omega), if_neg (by omega)]
theorem SP_cs {g t : Int → Int} (hT : TOK T X) (h : ∀ k : Int, 0 ≤ k → k < oF T (T 0).toNat + 7 → t k = g k) (q : SP T X g) : SP T X t := by
  have h0 := hT.1
  have hr := oF_r hT (T 0).toNat (by omega)
  obtain ⟨q1, q2⟩ := q
  refine ⟨fun j hj => ?_, ?_⟩
  · have hn := (nm_sz hT (i := j) (by omega)).1
    have hj0 := oF_r hT j (by omega)
    have hm := oF_m hT (T 0).toNat (show j < (T 0).toNat by omega) (by omega)
    obtain ⟨a1, a2, a3, a4, a5⟩ := q1 j hj
    rw [h _ (by omega) (by omega), h _ (by omega) (by omega), h _ (by omega) (by omega), h _ (by omega) (by omega)]
    exact ⟨a1, a2, a3, fun k k0 k1 => by rw [h _ (by omega) (by omega)]; exact a4 k k0 k1, a5⟩
  · rw [h _ (by omega) (by omega), h _ (by omega) (by omega), h _ (by omega) (by omega), h _ (by omega) (by omega), h _ (by omega) (by omega), h _ (by omega) (by omega), h _ (by omega) (by omega)]
    exact q2
theorem sgc_is {t : Int → Int} : ∀ (n m : Nat) (p : Int), n < m → (∀ k : Int, 0 ≤ k → k < n → sgn (t (p + k))) → t (p + n) = 59 → sgc t p m = n
  | 0, m, p, h, _, e => by
    rw [show p + ((0 : Nat) : Int) = p by omega] at e
    exact sgc_no m (by omega)
  | n + 1, 0, p, h, _, _ => absurd h (by omega)
  | n + 1, m + 1, p, h, hs, e => by
    have h0 := hs 0 (by omega) (by omega)
    rw [show p + 0 = p by omega] at h0
    unfold sgn at h0
    rw [sgc, if_pos h0, sgc_is n m (p + 1) (by omega) (fun k a b => by rw [show p + 1 + k = p + (k + 1) by omega]; exact hs (k + 1) (by omega) (by omega)) (by rw [← e]; congr 1; omega)]
    omega
theorem SP_sg {t : Int → Int} (hT : TOK T X) (q : SP T X t) (j : Nat) (hj : (j : Int) < T 0) : sgc t (oF T j + 3) 13 = T (1 + (j : Int)) := by
  have hn := (nm_sz hT (i := j) (by omega)).1
  obtain ⟨a1, a2, a3, a4, a5⟩ := q.1 j hj
  have e := sgc_is (t := t) (T (1 + (j : Int))).toNat 13 (oF T j + 3) (by omega) (fun k a b => by rw [a4 k a (by omega)]; exact sgv_s _ _) (by rw [← a5]; congr 1; omega)
  rw [e]; omega
theorem SP_it {t : Int → Int} (hT : TOK T X) (q : SP T X t) (j : Nat) (hj : (j : Int) < T 0) : bItm t (oF T j) = oF T (j + 1) := by
  have hn := nm_sz hT (i := j) (by omega)
  obtain ⟨a1, a2, a3, a4, a5⟩ := q.1 j hj
  have e := SP_sg hT q j hj
  unfold bItm
  rw [if_pos a1]
  unfold bNam
  rw [e, a2, if_pos ⟨by omega, a3, by omega, by omega, a5⟩, oF]
theorem SP_iw {t : Int → Int} (hT : TOK T X) (q : SP T X t) : bItm t (oF T (T 0).toNat) = oF T (T 0).toNat + 7 := by
  obtain ⟨a1, a2, a3, a4, a5, a6, a7⟩ := q.2
  have h0 := hT.2.2
  unfold bItm
  rw [if_neg (by omega), if_pos a1]
  unfold bWor
  rw [a2, a4, a6, if_pos ⟨by omega, a3, by omega, a5, by omega, a7⟩]
theorem SP_itm {t : Int → Int} (hT : TOK T X) (q : SP T X t) : ∀ j : Nat, (j : Int) ≤ T 0 → itm t j = oF T j ∧ cnt t j = j ∧ wsp t j = -1
  | 0, _ => ⟨rfl, rfl, rfl⟩
  | j + 1, h => by
    obtain ⟨i1, i2, i3⟩ := SP_itm hT q j (by omega)
    obtain ⟨a1, -⟩ := q.1 j (by omega)
    refine ⟨by rw [itm, i1, SP_it hT q j (by omega)], by rw [cnt, i1, i2, if_pos a1]; omega, by rw [wsp, i1, if_neg (by omega), i3]⟩
theorem SP_end {t : Int → Int} (hT : TOK T X) (q : SP T X t) : itm t ((T 0).toNat + 1) = oF T (T 0).toNat + 7 ∧ cnt t ((T 0).toNat + 1) = T 0 ∧ wsp t ((T 0).toNat + 1) = oF T (T 0).toNat := by
  have h0 := hT.1
  obtain ⟨i1, i2, i3⟩ := SP_itm hT q (T 0).toNat (by omega)
  have a1 := q.2.1
  exact ⟨by rw [itm, i1, SP_iw hT q], by rw [cnt, i1, i2, if_neg (by omega)]; omega, by rw [wsp, i1, if_pos a1]⟩
theorem SP_flt {t : Int → Int} (hT : TOK T X) (q : SP T X t) : ∀ (d : Nat) (k : Nat) (j : Nat), (j : Int) + d = T 0 → d + 1 < k → flt t (oF T (T 0).toNat + 7) k (oF T j) j = -4
  | 0, k, j, h, hk => by
    have e : j = (T 0).toNat := by omega
    subst e
    have h0 := hT.1
    obtain ⟨k, rfl⟩ : ∃ n, k = n + 1 := ⟨k - 1, by omega⟩
    have hr := oF_r hT (T 0).toNat (by omega)
    rw [flt, if_pos (by omega), SP_iw hT q, if_neg (by rw [q.2.1, if_neg (by decide)]; omega), flt_end (Or.inr (Int.le_refl _))]
  | d + 1, k, j, h, hk => by
    obtain ⟨k, rfl⟩ : ∃ n, k = n + 1 := ⟨k - 1, by omega⟩
    have h0 := hT.1
    have hm := oF_m hT (T 0).toNat (show j < (T 0).toNat by omega) (by omega)
    have hn := (nm_sz hT (i := j) (by omega)).1
    have hj1 := oF_r hT (j + 1) (by omega)
    obtain ⟨a1, -⟩ := q.1 j (by omega)
    rw [flt, if_pos (by omega), SP_it hT q j (by omega), a1, if_pos rfl, if_neg (by omega)]
    exact SP_flt hT q d k (j + 1) (by omega) (by omega)
theorem itm_un {t : Int → Int} {len : Int} {I J : Nat} (h1 : len ≤ itm t I) (h2 : ∀ k : Nat, k < I → itm t k < len) (h3 : len ≤ itm t J) (h4 : ∀ k : Nat, k < J → itm t k < len) : I = J := by
  rcases Nat.lt_trichotomy I J with z | z | z
  · have := h4 I z; omega
  · exact z
  · have := h2 J z; omega
theorem lbv_cs {s v : Int → Int} : ∀ n : Nat, (∀ k : Int, 0 ≤ k → k < n → s k = v k) → lbv s n = lbv v n
  | 0, _ => rfl
  | n + 1, h => by rw [lbv, lbv, lbv_cs n (fun k a b => h k a (by omega)), h n (by omega) (by omega)]
end TXT
