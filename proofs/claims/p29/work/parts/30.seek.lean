/-! ways, passing and scores of the names that are laid -/
theorem gbf_mem {T : Int → Int} : ∀ (k : Nat) (q gr bf : Int), gbf T k q gr bf = (gr, bf) ∨ (q ≤ (gbf T k q gr bf).2 ∧ (gbf T k q gr bf).2 < q + k ∧ (gbf T k q gr bf).1 = T (gbf T k q gr bf).2)
  | 0, q, gr, bf => Or.inl rfl
  | k + 1, q, gr, bf => by
    rw [gbf]
    split
    · rcases gbf_mem (T := T) k (q + 1) (T q) q with e | ⟨e1, e2, e3⟩
      · right; rw [e]; dsimp only; omega
      · right; omega
    · rcases gbf_mem (T := T) k (q + 1) gr bf with e | ⟨e1, e2, e3⟩
      · left; exact e
      · right; omega
section SCW
variable {T X V : Int → Int} {i : Int}
/-- the number of the row -/
abbrev TLR (T X V : Int → Int) (i : Int) (d : Nat) (q : Int) : Int × Int := tlr (SG X i) (Vl V) (T (9 + i)) (bgv (SG X i) (T (1 + i)).toNat) (T 17) (T 18) (T 19) (T (1 + i)) (V 0) d q
abbrev WOB (T X V : Int → Int) (i : Int) : Int := wob (SG X i) (Vl V) (T (9 + i)) (bgv (SG X i) (T (1 + i)).toNat) (T 17) (T 18) (T 19) (T (1 + i)) (V 0)
/-- the k-th place of the best way -/
def PL (T X V : Int → Int) (i : Int) : Nat → Int
  | 0 => WOB T X V i
  | k + 1 => (TLR T X V i (V 0 - 1 - k).toNat (PL T X V i k)).2
theorem nm_sz (hT : TOK T X) (hi : 0 ≤ i ∧ i < T 0) : (1 ≤ T (1 + i) ∧ T (1 + i) ≤ 12) ∧ (0 ≤ T (9 + i) ∧ T (9 + i) ≤ 3) ∧ (0 ≤ X i ∧ X i < 68719476736) := hT.2.1 i hi.1 (by have := hT.1; omega)
theorem WY_SC (hT : TOK T X) (hV : VOK V) (hi : 0 ≤ i ∧ i < T 0) : 0 < WY T X V i ↔ ¬ SC T X V i = -4 := by
  have hn := (nm_sz hT hi).1
  have h1 := resS_n (SG X i) (Vl V) (T (9 + i)) (b := T 17) (r := T 18) (g := T 19) (n := T (1 + i)) (m := V 0) (by omega) hV.1.1
  have h2 := (resS_w (s := SG X i) (f := Vl V) (kd := T (9 + i)) (n := T (1 + i)) hT.2.2.1 hT.2.2.2.1 hT.2.2.2.2 (by omega) hV.1.1).2.1
  have h3 := (cwv_r (sg := SG X i) (f := Vl V) (kd := T (9 + i)) (T (1 + i)).toNat (V 0).toNat).1
  unfold SC WY
  rw [← h2, h1]
  omega
theorem SC_ps (hT : TOK T X) (hV : VOK V) (hi : 0 ≤ i ∧ i < T 0) (h : ¬ SC T X V i = -4) : PSs T X V i := by
  have hn := (nm_sz hT hi).1
  have h2 := (resS_w (s := SG X i) (f := Vl V) (kd := T (9 + i)) (n := T (1 + i)) hT.2.2.1 hT.2.2.2.1 hT.2.2.2.2 (by omega) hV.1.1).2.1
  refine (pass_iff (fun q _ => sgv_s _ _) (fun k hk => hV.2 k (by omega) (by have := hV.1; omega))).mpr ?_
  exact way_pass (kd := T (9 + i)) (b := T 17) (r := T 18) (g := T 19) (by omega) hV.1.1 (fun q _ _ => sgv_s _ _) (fun k a b => hV.2 k a b) (fun z => h (h2.mp z))
theorem wor_wob (hT : TOK T X) (hV : VOK V) (hi : 0 ≤ i ∧ i < T 0) (hm : 0 < V 0) (h : ¬ SC T X V i = -4) : (0 ≤ WOB T X V i ∧ WOB T X V i < T (1 + i)) ∧ SC T X V i = (TLR T X V i (V 0 - 1).toNat (WOB T X V i)).1 := by
  have hn := (nm_sz hT hi).1
  have e1 : SC T X V i = (gbf (fun x => (TLR T X V i (V 0 - 1).toNat x).1) (T (1 + i)).toNat 0 (-4) (-1)).1 := by unfold SC wor; rw [if_neg (by omega)]
  have e2 : WOB T X V i = (gbf (fun x => (TLR T X V i (V 0 - 1).toNat x).1) (T (1 + i)).toNat 0 (-4) (-1)).2 := by unfold WOB wob; rw [if_neg (by omega)]
  rw [e1] at h
  rw [e1, e2]
  rcases gbf_mem (T := fun x => (TLR T X V i (V 0 - 1).toNat x).1) (T (1 + i)).toNat 0 (-4) (-1) with e | ⟨a1, a2, a3⟩
  · rw [e] at h; exact absurd rfl h
  · exact ⟨⟨by omega, by omega⟩, a3⟩
theorem SC_0 (hT : TOK T X) (hV : VOK V) (hi : 0 ≤ i ∧ i < T 0) (h : ¬ SC T X V i = -4) : 0 ≤ SC T X V i := by
  have hn := (nm_sz hT hi).1
  by_cases hm : V 0 = 0
  · unfold SC wor; rw [if_pos hm]; omega
  · have hv := hV.1
    obtain ⟨⟨a1, a2⟩, a3⟩ := wor_wob hT hV hi (by omega) h
    unfold TLR WOB at *
    rcases tlr_lb (s := SG X i) (f := Vl V) (kd := T (9 + i)) (m := V 0) hT.2.2.1 hT.2.2.2.1 hT.2.2.2.2 (show 0 ≤ T (1 + i) ∧ T (1 + i) ≤ 12 by omega) (bg := bgv (SG X i) (T (1 + i)).toNat) (V 0 - 1).toNat _ a1 a2 with e | ⟨e1, e2, e3⟩
    · rw [a3] at h; exact absurd e h
    · rw [a3]
      by_cases z : (V 0 - 1).toNat = 0
      · have := e3 z; omega
      · omega
/-- a letter of the best way -/
theorem tlr_st (hT : TOK T X) (hV : VOK V) (hi : 0 ≤ i ∧ i < T 0) (d : Nat) (q : Int) (hd : (d : Int) < V 0) (h : ¬ (TLR T X V i d q).1 = -4) : alk (SG X i q) (T (9 + i)) (Vl V (V 0 - 1 - d)) ∧ ((d = 0 ∧ (TLR T X V i d q).1 = opl (bgv (SG X i) (T (1 + i)).toNat) (T (9 + i)) (T 17) q) ∨ (∃ d' : Nat, d = d' + 1 ∧ (q < (TLR T X V i d q).2 ∧ (TLR T X V i d q).2 < T (1 + i)) ∧ ¬ (TLR T X V i d' (TLR T X V i d q).2).1 = -4 ∧ (TLR T X V i d q).1 = opl (bgv (SG X i) (T (1 + i)).toNat) (T (9 + i)) (T 17) q + ((TLR T X V i d' (TLR T X V i d q).2).1 + ost (T (9 + i)) (T 18) (T 19) q (TLR T X V i d q).2))) := by
  cases d with
  | zero =>
    unfold TLR at *
    rw [tlr, rw1] at h ⊢
    by_cases ha : alk (SG X i q) (T (9 + i)) (Vl V (V 0 - 1))
    · rw [if_pos ha, if_pos rfl] at h ⊢
      exact ⟨by rw [show V 0 - 1 - ((0 : Nat) : Int) = V 0 - 1 by omega]; exact ha, Or.inl ⟨rfl, rfl⟩⟩
    · rw [if_neg ha] at h; exact absurd rfl h
  | succ d' =>
    unfold TLR at *
    rw [tlr, rw1] at h ⊢
    by_cases ha : alk (SG X i q) (T (9 + i)) (Vl V (V 0 - 2 - d'))
    · rw [if_pos ha, if_neg (by omega)] at h ⊢
      refine ⟨by rw [show V 0 - 1 - ((d' + 1 : Nat) : Int) = V 0 - 2 - d' by omega]; exact ha, Or.inr ⟨d', rfl, ?_⟩⟩
      dsimp only at h ⊢
      rcases nxl_mem (T := fun x => (tlr (SG X i) (Vl V) (T (9 + i)) (bgv (SG X i) (T (1 + i)).toNat) (T 17) (T 18) (T 19) (T (1 + i)) (V 0) d' x).1) (c := ost (T (9 + i)) (T 18) (T 19) q) (T (1 + i) - (q + 1)).toNat (q + 1) 0 (-1) with e | ⟨m1, m2, m3, m4⟩
      · rw [e] at h; exact absurd rfl h
      · by_cases z : (nxl (fun x => (tlr (SG X i) (Vl V) (T (9 + i)) (bgv (SG X i) (T (1 + i)).toNat) (T 17) (T 18) (T 19) (T (1 + i)) (V 0) d' x).1) (ost (T (9 + i)) (T 18) (T 19) q) (T (1 + i) - (q + 1)).toNat (q + 1) 0 (-1)).2 = -1
        · rw [if_pos z] at h; exact absurd rfl h
        · rw [if_neg z, m4]
          exact ⟨⟨by omega, by omega⟩, m3, rfl⟩
    · rw [if_neg ha] at h; exact absurd rfl h
/-- all letters of it -/
theorem PL_at (hT : TOK T X) (hV : VOK V) (hi : 0 ≤ i ∧ i < T 0) (h : ¬ SC T X V i = -4) : ∀ k : Nat, (k : Int) < V 0 → (0 ≤ PL T X V i k ∧ PL T X V i k < T (1 + i)) ∧ ¬ (TLR T X V i (V 0 - 1 - k).toNat (PL T X V i k)).1 = -4
  | 0, hk => by
    obtain ⟨a1, a2⟩ := wor_wob hT hV hi (by omega) h
    refine ⟨a1, ?_⟩
    rw [show (V 0 - 1 - ((0 : Nat) : Int)).toNat = (V 0 - 1).toNat by omega]
    show ¬ (TLR T X V i (V 0 - 1).toNat (WOB T X V i)).1 = -4
    rw [← a2]; exact h
  | k + 1, hk => by
    obtain ⟨a1, a2⟩ := PL_at hT hV hi h k (by omega)
    rcases (tlr_st hT hV hi (V 0 - 1 - k).toNat (PL T X V i k) (by omega) a2).2 with ⟨z, -⟩ | ⟨d', e1, e2, e3, -⟩
    · omega
    · rw [show (V 0 - 1 - ((k + 1 : Nat) : Int)).toNat = d' by omega, PL]
      exact ⟨⟨by omega, e2.2⟩, e3⟩
/-- from a letter to the next -/
theorem PL_st (hT : TOK T X) (hV : VOK V) (hi : 0 ≤ i ∧ i < T 0) (h : ¬ SC T X V i = -4) (k : Nat) (hk : (k : Int) < V 0) : alk (SG X i (PL T X V i k)) (T (9 + i)) (V (1 + k)) ∧ (((k : Int) + 1 = V 0 ∧ (TLR T X V i (V 0 - 1 - k).toNat (PL T X V i k)).1 = opl (bgv (SG X i) (T (1 + i)).toNat) (T (9 + i)) (T 17) (PL T X V i k)) ∨ ((k : Int) + 1 < V 0 ∧ PL T X V i k < PL T X V i (k + 1) ∧ (TLR T X V i (V 0 - 1 - k).toNat (PL T X V i k)).1 = opl (bgv (SG X i) (T (1 + i)).toNat) (T (9 + i)) (T 17) (PL T X V i k) + ((TLR T X V i (V 0 - 1 - (k + 1 : Nat)).toNat (PL T X V i (k + 1))).1 + ost (T (9 + i)) (T 18) (T 19) (PL T X V i k) (PL T X V i (k + 1))))) := by
  obtain ⟨a1, a2⟩ := PL_at hT hV hi h k hk
  obtain ⟨b1, b2⟩ := tlr_st hT hV hi (V 0 - 1 - k).toNat (PL T X V i k) (by omega) a2
  refine ⟨?_, ?_⟩
  · rw [show V 0 - 1 - (((V 0 - 1 - (k : Int)).toNat : Nat) : Int) = k by omega] at b1; exact b1
  · rcases b2 with ⟨z, e⟩ | ⟨d', e1, e2, e3, e4⟩
    · exact Or.inl ⟨by omega, e⟩
    · refine Or.inr ⟨by omega, ?_⟩
      rw [show (V 0 - 1 - ((k + 1 : Nat) : Int)).toNat = d' by omega, PL]
      exact ⟨e2.1, e4⟩
end SCW
theorem tlr_cs {s v f g_ : Int → Int} {kd bg b r g n m : Int} (hs : ∀ k : Int, 0 ≤ k → k < n → s k = v k) (hf : ∀ i : Int, 0 ≤ i → i < m → f i = g_ i) : ∀ (d : Nat) (q : Int), (d : Int) < m → 0 ≤ q → q < n → tlr s f kd bg b r g n m d q = tlr v g_ kd bg b r g n m d q
  | 0, q, hd, h0, h1 => by rw [tlr, tlr, rw1, rw1, hs q h0 h1, hf (m - 1) (by omega) (by omega)]
  | d + 1, q, hd, h0, h1 => by
    have e := rw1_congr (T := fun x => (tlr s f kd bg b r g n m d x).1) (T2 := fun x => (tlr v g_ kd bg b r g n m d x).1) (sg := s) (kd := kd) (bg := bg) (b := b) (r := r) (g := g) (n := n) (x := f (m - 2 - d)) (d := (d : Int) + 1) (q := q) (fun _ i a c => by
      rw [tlr_cs hs hf d i (by omega) (by omega) c])
    rw [tlr, tlr, e, rw1, rw1, hs q h0 h1, hf (m - 2 - d) (by omega) (by omega)]
theorem gbf_cs {T T2 : Int → Int} : ∀ (k : Nat) (q gr bf : Int), (∀ i : Int, q ≤ i → i < q + k → T i = T2 i) → gbf T k q gr bf = gbf T2 k q gr bf
  | 0, _, _, _, _ => rfl
  | k + 1, q, gr, bf, h => by
    rw [gbf, gbf, h q (by omega) (by omega), gbf_cs k (q + 1) (T2 q) q (fun i a b => h i (by omega) (by omega)), gbf_cs k (q + 1) gr bf (fun i a b => h i (by omega) (by omega))]
theorem wob_cs {s v f g_ : Int → Int} {kd bg b r g n m : Int} (hn : 0 ≤ n) (hs : ∀ k : Int, 0 ≤ k → k < n → s k = v k) (hf : ∀ i : Int, 0 ≤ i → i < m → f i = g_ i) (hm : 0 ≤ m) : wob s f kd bg b r g n m = wob v g_ kd bg b r g n m := by
  unfold wob
  by_cases h : m = 0
  · rw [if_pos h, if_pos h]
  · rw [if_neg h, if_neg h, gbf_cs (T := fun x => (tlr s f kd bg b r g n m (m - 1).toNat x).1) (T2 := fun x => (tlr v g_ kd bg b r g n m (m - 1).toNat x).1) _ _ _ _ (fun i a b => by
      rw [tlr_cs hs hf _ i (by omega) a (by omega)])]
