section OPS2
theorem wdT_fr {F F2 : Nat → Int → Int} (h : ∀ (c : Nat) (i : Int), c = 8 ∨ c = 16 + 1 → F2 c i = F c i) (hw : wdT F) : wdT F2 := wdT_of rfl hw.1 hw.2 (fun i => h 8 i (Or.inl rfl)) (fun i => h (16 + 1) i (Or.inr rfl))
theorem JJ_wd {S : St} {M : Nat → Int → Int} {n : Int} (h : JJ S M n) : wdT S.1 := h.2.2.2.1.1 1 (by decide)
theorem op_ways {S : St} {M : St} {n r r2 : Int} {S1 M1 : St} {x : Int} (h : JJ S M.1 n) (hn : n < 600) (hc : po_X9_ways S x r S1) (hm : po_X10_ways M x r2 M1) : r = r2 ∧ JJ S1 M1.1 (n + 1) := by
  have e51 := h.2.1.2.2.2.2.1
  obtain ⟨c1, c2, c3⟩ := hc
  have hx2 : nxi S1.1 := nxi_fr (fun c i hc => c2 c i (by omega)) h.2.2.2.2.2.2.2.2
  have hw2 : wdT S1.1 := wdT_fr (fun c i hc => c2 c i (by omega)) (JJ_wd h)
  rcases c3 with ⟨a1, a2⟩ | ⟨a1, a2⟩
  · rcases hm with ⟨b1, b2, b3⟩ | ⟨b1, b2, b3, b4⟩
    · rw [b3]; exact ⟨by omega, JJ_sk h hn c1 (fun c i _ _ h9 _ _ _ => c2 c i h9) hx2 hw2 (fun _ _ _ _ _ => rfl)⟩
    · exact absurd b1 (by omega)
  · rcases hm with ⟨b1, b2, b3⟩ | ⟨b1, b2, b3, b4⟩
    · exact absurd a1 (by omega)
    · have hw := MWD h
      have o1 := (h.2.1.2.2.2.1 x a1.1 a1.2).1
      refine ⟨?_, JJ_sk h hn c1 (fun c i _ _ h9 _ _ _ => c2 c i h9) hx2 hw2 (fun c i p q r => b3 c i (by omega) q r)⟩
      rw [a2, b4, hw.2.1, MR h a1 hw.1.1 hw.2.2, resS_n _ _ _ (by omega) hw.1.1]
theorem op_passes {S : St} {M : St} {n r r2 : Int} {S1 M1 : St} {x : Int} (h : JJ S M.1 n) (hn : n < 600) (hc : po_X9_passes S x r S1) (hm : po_X10_passes M x r2 M1) : r = r2 ∧ JJ S1 M1.1 (n + 1) := by
  have e51 := h.2.1.2.2.2.2.1
  obtain ⟨c1, c2, c3⟩ := hc
  obtain ⟨m1, m2, m3⟩ := hm
  have hx2 : nxi S1.1 := nxi_fr (fun c i hc => c2 c i (by omega)) h.2.2.2.2.2.2.2.2
  have hw2 : wdT S1.1 := wdT_fr (fun c i hc => c2 c i (by omega)) (JJ_wd h)
  have hJ : JJ S1 M1.1 (n + 1) := JJ_sk h hn c1 (fun c i _ _ h9 _ _ _ => c2 c i h9) hx2 hw2 (fun c i p q r => m2 c i (by omega) q r)
  refine ⟨?_, hJ⟩
  rcases c3 with ⟨a1, a2⟩ | ⟨a1, a2⟩ | ⟨a1, a2⟩
  · rcases m3 with ⟨b1, b2⟩ | ⟨b1, b2⟩
    · omega
    · exact absurd b1 a1
  · rcases m3 with ⟨b1, b2⟩ | ⟨b1, b2⟩
    · exact absurd (Or.inl a1) b1
    · rw [a2, b2, e51]
      refine psb_congr _ (fun y p q => ?_)
      rw [MPS h ⟨p, by omega⟩]
      constructor
      · intro z; exact Or.inl ⟨a1, z⟩
      · rintro (z | z)
        · exact z.2
        · exact absurd z.1 (by omega)
  · rcases m3 with ⟨b1, b2⟩ | ⟨b1, b2⟩
    · exact absurd (Or.inr a1) b1
    · rw [a2, b2, e51]
      have hw := MWD h
      refine psb_congr _ (fun y p q => ?_)
      have hy : 0 ≤ y ∧ y < S.1 51 0 := ⟨p, by omega⟩
      have o1 := (h.2.1.2.2.2.1 y hy.1 hy.2).1
      rw [hw.2.1, MR h hy hw.1.1 hw.2.2, resS_n _ _ _ (by omega) hw.1.1]
      constructor
      · intro z; exact Or.inr ⟨a1, z⟩
      · rintro (z | z)
        · exact absurd z.1 (by omega)
        · exact z.2
def JHb (F M : Nat → Int → Int) (u : Int) : Prop := ((0 ≤ F 61 0 ∧ F 61 0 ≤ u) ∧ (0 ≤ F 62 0 ∧ F 62 0 ≤ u)) ∧ M 58 0 = F 61 0 ∧ M 59 0 = F 62 0
theorem SK {F M : Nat → Int → Int} {p : Nat} {di ag cd sc u : Int} (hK : JK F M) (hH : JHb F M u) (hdi : di = F 4 (p : Int)) (hd0 : 0 ≤ di ∧ di ≤ 100000) (hag : ag = F 58 0) (ha0 : 1 ≤ ag ∧ ag ≤ 100000) (hcd : 0 ≤ cd ∧ cd < 1099511627776) (hsc : -1000 ≤ sc ∧ sc ≤ 1000) : (skF F p sc cd).2 = (skM M di ag cd sc).2 ∧ JK (skF F p sc cd).1 (skM M di ag cd sc).1 ∧ JHb (skF F p sc cd).1 (skM M di ag cd sc).1 (u + 1) := by
  have hq := hK (plM di ag cd) plM_r.1 plM_r.2
  have ep : plc F p cd = plM di ag cd := by unfold plc plM; rw [hdi, hag]
  have hiff : (M 16 (plM di ag cd) = di ∧ M 17 (plM di ag cd) = cd ∧ M 18 (plM di ag cd) = ag) ↔ (F 10 (plM di ag cd) = F 4 (p : Int) ∧ F 11 (plM di ag cd) = cd ∧ F 12 (plM di ag cd) = F 58 0) := by
    unfold RK at hq
    rw [← hdi, ← hag]
    omega
  unfold skF skM
  rw [ep]
  by_cases hh : F 10 (plM di ag cd) = F 4 (p : Int) ∧ F 11 (plM di ag cd) = cd ∧ F 12 (plM di ag cd) = F 58 0
  · rw [if_pos hh, if_pos (hiff.mpr hh)]
    refine ⟨?_, ?_, ?_⟩
    · unfold RK at hq
      show F 13 _ = M 19 _
      omega
    · exact JK_fr (fun c i hc => us_nc (by omega)) (fun c i hc => us_nc (by omega)) hK
    · unfold JHb at hH ⊢
      dsimp only
      rw [us_eq, us_nc (by decide), us_eq, us_nc (by decide)]
      omega
  · rw [if_neg hh, if_neg (fun z => hh (hiff.mp z))]
    refine ⟨rfl, ?_, ?_⟩
    · intro y y1 y2
      have hy := hK y y1 y2
      unfold RK at hy ⊢
      dsimp only
      by_cases e : y = plM di ag cd
      · subst e
        rw [ua_nc (by decide), ua_nc (by decide), ua_nc (by decide), ua_eq, ua_nc (by decide), ua_nc (by decide), ua_eq, ua_nc (by decide), ua_eq, ua_eq, ua_nc (by decide), ua_nc (by decide), ua_nc (by decide), ua_eq, ua_nc (by decide), ua_nc (by decide), ua_eq, ua_nc (by decide), ua_eq, ua_eq]
        omega
      · rw [ua_ni e, ua_ni e, ua_ni e, ua_ni e, us_nc (by decide), ua_ni e, ua_ni e, ua_ni e, ua_ni e, us_nc (by decide), ua_ni e, ua_ni e, ua_ni e, ua_ni e, us_nc (by decide), ua_ni e, ua_ni e, ua_ni e, ua_ni e, us_nc (by decide), ua_ni e, ua_ni e, ua_ni e, ua_ni e, us_nc (by decide), ua_ni e, ua_ni e, ua_ni e, ua_ni e, us_nc (by decide), ua_ni e, ua_ni e, ua_ni e, ua_ni e, us_nc (by decide), ua_ni e, ua_ni e, ua_ni e, ua_ni e, us_nc (by decide)]
        exact hy
    · unfold JHb at hH ⊢
      dsimp only
      rw [ua_nc (by decide), ua_nc (by decide), ua_nc (by decide), ua_nc (by decide), us_nc (by decide), ua_nc (by decide), ua_nc (by decide), ua_nc (by decide), ua_nc (by decide), us_eq, ua_nc (by decide), ua_nc (by decide), ua_nc (by decide), ua_nc (by decide), us_nc (by decide), ua_nc (by decide), ua_nc (by decide), ua_nc (by decide), ua_nc (by decide), us_eq]
      omega
theorem JHb_fr {F F2 M M2 : Nat → Int → Int} {u : Int} (hF : ∀ (c : Nat) (i : Int), c = 61 ∨ c = 62 → F2 c i = F c i) (hM : ∀ (c : Nat) (i : Int), c = 58 ∨ c = 59 → M2 c i = M c i) (h : JHb F M u) : JHb F2 M2 u := by
  unfold JHb at *
  rw [hF 61 _ (by decide), hF 62 _ (by decide), hM 58 _ (by decide), hM 59 _ (by decide)]
  exact h
theorem op_score {S : St} {M : St} {n r r2 : Int} {S1 M1 : St} {x : Int} (h : JJ S M.1 n) (hn : n < 600) (hc : po_X9_score S x r S1) (hm : po_X10_score M x r2 M1) : r = r2 ∧ JJ S1 M1.1 (n + 1) := by
  have e51 := h.2.1.2.2.2.2.1
  rcases hc with ⟨a1, a2, a3⟩ | ⟨a1, a2, a3, a4, a5⟩
  · rcases hm with ⟨b1, b2, b3⟩ | ⟨b1, b2, b3, b4⟩
    · rw [a3, b3]; exact ⟨by omega, JJ_n h hn⟩
    · exact absurd b1 (by omega)
  · rcases hm with ⟨b1, b2, b3⟩ | ⟨b1, b2, b3, b4⟩
    · exact absurd a1 (by omega)
    · have hw := MWD h
      have hr := h.2.1.2.2.2.2.2 x a1.1 a1.2
      have ho := h.2.1.2.2.2.1 x a1.1 a1.2
      rw [sc_MR h a1, ← JW_word h.2.2.2.1] at b3 b4
      obtain ⟨hT, hN, hS, hW, hC, hH, hA, hK, hX⟩ := id h
      have hC2 := hC
      unfold JC at hC2
      have hcd := cdv_r (f := S.1 (16 + 0)) (S.1 8 0).toNat (by omega) (fun i p q => hW.1 0 (by decide) |>.2 i p (by show i < S.1 8 0; omega))
      have hsc := wor_r (sg := S.1 (20 + S.2 x.toNat)) (f := S.1 (16 + 0)) (kd := S.1 3 ((S.2 x.toNat : Nat) : Int)) (bg := S.1 6 ((S.2 x.toNat : Nat) : Int)) (n := S.1 2 ((S.2 x.toNat : Nat) : Int)) (m := S.1 8 0) hS.1.1 hS.1.2.1 hS.1.2.2 (by have := ho.1; omega) hw.1
      have hsk := SK (p := S.2 x.toNat) (di := M.1 5 x) (ag := M.1 57 0) (cd := cdv (S.1 (16 + 0)) (S.1 8 0).toNat) (sc := scO S.1 (S.2 x.toNat)) (u := 8 * n) hK hH hr.2.2.1 (by rw [hr.2.2.1]; exact ho.2.2.1) (by omega) (by omega) (by omega) hsc
      have fC : ∀ (c : Nat) (i : Int), ¬ (30 ≤ c ∧ c < 46) → ¬ c = 60 → ¬ (10 ≤ c ∧ c < 14) → ¬ c = 61 → ¬ c = 62 → S1.1 c i = S.1 c i := fun c i p q s t u => (a3 c i p q).trans (skF_fr s t u)
      have fM : ∀ (c : Nat) (i : Int), ¬ (20 ≤ c ∧ c ≤ 22) → ¬ c = 62 → ¬ c = 63 → ¬ (16 ≤ c ∧ c ≤ 19) → ¬ c = 58 → ¬ c = 59 → M1.1 c i = M.1 c i := fun c i p q r s t u => (b3 c i p q r).trans (skM_fr s t u)
      refine ⟨by rw [a4, b4]; exact hsk.1, JJ_of ?_ ?_ ?_ ?_ ?_ ?_ ?_ ?_ a5⟩
      · exact JT_fr (fun c i hc => fC c i (by omega) (by omega) (by omega) (by omega) (by omega)) (fun c i hc => fM c i (by omega) (by omega) (by omega) (by omega) (by omega) (by omega)) hT
      · rw [a2]; exact JN_fr (fun c i hc => fC c i (by omega) (by omega) (by omega) (by omega) (by omega)) (fun c i hc => fM c i (by omega) (by omega) (by omega) (by omega) (by omega) (by omega)) hN
      · exact JS_fr (fun c i hc => fC c i (by omega) (by omega) (by omega) (by omega) (by omega)) (fun c i hc => fM c i (by omega) (by omega) (by omega) (by omega) (by omega) (by omega)) hS
      · exact JW_fr (fun c i hc => fC c i (by omega) (by omega) (by omega) (by omega) (by omega)) (fun c i hc => fM c i (by omega) (by omega) (by omega) (by omega) (by omega) (by omega)) hW
      · exact JC_fr hn (fun c i hc => fC c i (by omega) (by omega) (by omega) (by omega) (by omega)) (fun c i hc => fM c i (by omega) (by omega) (by omega) (by omega) (by omega) (by omega)) hC
      · have q := JHb_fr (F2 := S1.1) (M2 := M1.1) (fun c i hc => a3 c i (by omega) (by omega)) (fun c i hc => b3 c i (by omega) (by omega) (by omega)) hsk.2.2
        unfold JHb at q
        unfold JH
        omega
      · exact JA_fr (fun c i hc => fC c i (by omega) (by omega) (by omega) (by omega) (by omega)) (fun c i hc => fM c i (by omega) (by omega) (by omega) (by omega) (by omega) (by omega)) hA
      · exact JK_fr (fun c i hc => a3 c i (by omega) (by omega)) (fun c i hc => b3 c i (by omega) (by omega) (by omega)) hsk.2.1
theorem chain {t : Nat → Int → Int × Int} {F : Nat → Int → Int} {a : Int → Int} {bf m n : Int} (hF : ∀ k : Int, 0 ≤ k → k < m → ∀ i : Int, 0 ≤ i → i < n → F (40 + k.toNat) i = (t (m - 1 - k).toNat i).2) (ht : ∀ (d : Nat) (x : Int), 0 ≤ x → x < n → ¬ (t (d + 1) x).1 = -4 → (0 ≤ (t (d + 1) x).2 ∧ (t (d + 1) x).2 < n) ∧ ¬ (t d (t (d + 1) x).2).1 = -4) : ∀ (d i : Nat) (y : Int), (i : Int) + d + 1 = m → bpw F bf i = y → 0 ≤ y → y < n → ¬ (t d y).1 = -4 → lst a (d + 1) i = rowd t d y → ∀ u : Nat, i ≤ u → u ≤ i + d → a u = bpw F bf u ∧ 0 ≤ bpw F bf u
  | 0, i, y, hm, hb, h0, h1, h4, hl, u, hu1, hu2 => by
    rw [show u = i by omega]
    rw [lst, lst, rowd] at hl
    have e := (List.cons.inj hl).1
    rw [e, hb]; exact ⟨rfl, h0⟩
  | d + 1, i, y, hm, hb, h0, h1, h4, hl, u, hu1, hu2 => by
    rw [lst, rowd] at hl
    obtain ⟨e, el⟩ := List.cons.inj hl
    rcases Nat.lt_or_ge i u with z | z
    · obtain ⟨q1, q2⟩ := ht d y h0 h1 h4
      have e2 : bpw F bf (i + 1) = (t (d + 1) y).2 := by
        rw [bpw, hb, if_neg (by omega)]
        have := hF i (by omega) (by omega) y h0 h1
        rw [show ((i : Int)).toNat = i by omega, show (m - 1 - (i : Int)).toNat = d + 1 by omega] at this
        exact this
      exact chain hF ht d (i + 1) _ (by omega) e2 q1.1 q1.2 q2 el u (by omega) (by omega)
    · rw [show u = i by omega, e, hb]; exact ⟨rfl, h0⟩
theorem tlr_nx {s f : Int → Int} {kd bg b r g n m : Int} (d : Nat) (x : Int) (h0 : 0 ≤ x) (h1 : x < n) (h : ¬ (tlr s f kd bg b r g n m (d + 1) x).1 = -4) : (0 ≤ (tlr s f kd bg b r g n m (d + 1) x).2 ∧ (tlr s f kd bg b r g n m (d + 1) x).2 < n) ∧ ¬ (tlr s f kd bg b r g n m d (tlr s f kd bg b r g n m (d + 1) x).2).1 = -4 := by
  have hm := nxl_mem (T := fun x => (tlr s f kd bg b r g n m d x).1) (c := ost kd r g x) (n - (x + 1)).toNat (x + 1) 0 (-1)
  rw [tlr.eq_2, rw1] at h ⊢
  by_cases ha : alk (s x) kd (f (m - 2 - d))
  · rw [if_pos ha, if_neg (show ¬ ((d : Int) + 1 = 0) by omega)] at h ⊢
    generalize (nxl (fun x => (tlr s f kd bg b r g n m d x).1) (ost kd r g x) (n - (x + 1)).toNat (x + 1) 0 (-1)) = R at *
    dsimp only at h ⊢
    by_cases hx : R.2 = -1
    · rw [if_pos hx] at h; exact absurd rfl h
    · rcases hm with e | ⟨m1, m2, m3, m4⟩
      · rw [e] at hx; exact absurd rfl hx
      · exact ⟨by omega, m3⟩
  · rw [if_neg ha] at h; exact absurd rfl h
theorem op_best {S : St} {M : St} {n r r2 : Int} {S1 M1 : St} {x u : Int} (h : JJ S M.1 n) (hn : n < 600) (hc : po_X9_best S x u r S1) (hm : po_X10_best M x u r2 M1) : r = r2 ∧ JJ S1 M1.1 (n + 1) := by
  have e51 := h.2.1.2.2.2.2.1
  obtain ⟨c1, c2, c4, c3⟩ := hc
  obtain ⟨m1, m2, m3⟩ := hm
  have hw2 : wdT S1.1 := wdT_fr (fun c i hc => c2 c i (by omega) (by omega)) (JJ_wd h)
  refine ⟨?_, JJ_sk h hn c1 (fun c i _ _ _ _ h1 h2 => c2 c i (by omega) h2) c4 hw2 (fun c i p q r => m2 c i (by omega) q r)⟩
  have hw := MWD h
  rcases c3 with ⟨a1, a2⟩ | ⟨a1, a2, a3, a4⟩ | ⟨a1, a2, a3, a4, a5, a6⟩
  · rcases m3 with ⟨b1, b2⟩ | ⟨b1, b2, b3, b4⟩ | ⟨b1, b2, b3, b4, a, b5, b6⟩
    · omega
    · exact absurd b1 (by omega)
    · exact absurd b1 (by omega)
  · rcases m3 with ⟨b1, b2⟩ | ⟨b1, b2, b3, b4⟩ | ⟨b1, b2, b3, b4, a, b5, b6⟩
    · exact absurd b1 (by omega)
    · omega
    · rw [hw.2.1, MR h a1 hw.1.1 hw.2.2] at b4
      have hmw := (MW (f := S.1 (16 + 0)) h a1 hw.1.1).2.1
      rw [wor_MR h a1] at hmw
      rcases a3 with z | z
      · exact absurd b3 (by omega)
      · exact absurd (hmw.mpr z) b4
  · have hmw := MW (f := S.1 (16 + 0)) h a1 hw.1.1
    unfold RW_ at hmw
    rw [← (h.2.1.2.2.2.2.2 x a1.1 a1.2).2.2.2.2.1] at hmw
    rcases m3 with ⟨b1, b2⟩ | ⟨b1, b2, b3, b4⟩ | ⟨b1, b2, b3, b4, a, b5, b6⟩
    · exact absurd b1 (by omega)
    · rw [hw.2.1, MR h a1 hw.1.1 hw.2.2] at b3
      rcases b3 with z | z
      · exact absurd (hmw.2.1.mp z) a4
      · exact absurd a3 (by omega)
    · rw [hw.2.1, MR h a1 hw.1.1 hw.2.2] at b5
      obtain ⟨g1, g2, g3⟩ := hmw.2.2 (by omega) a4
      rw [g1] at b5
      have hch := chain (bf := wob (S.1 (20 + S.2 x.toNat)) (S.1 (16 + 0)) (S.1 3 ((S.2 x.toNat : Nat) : Int)) (S.1 6 ((S.2 x.toNat : Nat) : Int)) (S.1 53 0) (S.1 54 0) (S.1 55 0) (S.1 2 ((S.2 x.toNat : Nat) : Int)) (S.1 8 0)) a5 tlr_nx ((S.1 8 0) - 1).toNat 0 _ (by omega) rfl g2.1 g2.2 g3 (by rw [show ((S.1 8 0) - 1).toNat + 1 = (S.1 8 0).toNat by omega]; exact b5) u.toNat (by omega) (by omega)
      rw [show ((u.toNat : Nat) : Int) = u by omega] at hch
      rw [a6, b6, if_neg (by omega), hch.1]
end OPS2
