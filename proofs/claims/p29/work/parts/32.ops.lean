/-! the class's calls, told in the law's numbers -/
section FR70
variable {S S1 : St} {r x u : Int}
theorem f7_eq (h : S1 = S) : ∀ (c_ : Nat) (i : Int), 70 ≤ c_ → S1.1 c_ i = S.1 c_ i := fun c_ i _ => by rw [h]
theorem f7_count (h : po_X9_count S x r S1) : ∀ (c_ : Nat) (i : Int), 70 ≤ c_ → S1.1 c_ i = S.1 c_ i := f7_eq h.2
theorem f7_word (h : po_X9_word S x r S1) : ∀ (c_ : Nat) (i : Int), 70 ≤ c_ → S1.1 c_ i = S.1 c_ i := f7_eq h.2
theorem f7_asked (h : po_X9_asked S x r S1) : ∀ (c_ : Nat) (i : Int), 70 ≤ c_ → S1.1 c_ i = S.1 c_ i := f7_eq h.2
theorem f7_fault (h : po_X9_fault S r S1) : ∀ (c_ : Nat) (i : Int), 70 ≤ c_ → S1.1 c_ i = S.1 c_ i := f7_eq h.2
theorem f7_name (h : po_X9_name S x u r S1) : ∀ (c_ : Nat) (i : Int), 70 ≤ c_ → S1.1 c_ i = S.1 c_ i := by
  rcases h with ⟨-, -, h⟩ | ⟨-, -, h⟩ <;> exact f7_eq h
theorem f7_wipe (h : po_X9_wipe S r S1) : ∀ (c_ : Nat) (i : Int), 70 ≤ c_ → S1.1 c_ i = S.1 c_ i := fun c_ i hc => by rw [h.2]; exact us_nc (by omega)
theorem f7_write (h : po_X9_write S x r S1) : ∀ (c_ : Nat) (i : Int), 70 ≤ c_ → S1.1 c_ i = S.1 c_ i := by
  rcases h with ⟨-, -, h⟩ | ⟨-, -, -, h⟩ | ⟨-, -, -, h⟩
  · exact f7_eq h
  · exact f7_eq h
  · intro c_ i hc; rw [h]; dsimp only; rw [us_nc (by omega), ua_nc (by omega)]
theorem f7_type (h : po_X9_type S x r S1) : ∀ (c_ : Nat) (i : Int), 70 ≤ c_ → S1.1 c_ i = S.1 c_ i := by
  rcases h with ⟨-, -, h⟩ | ⟨-, -, -, h⟩ | ⟨-, -, -, h⟩
  · exact f7_eq h
  · exact f7_eq h
  · intro c_ i hc; rw [h]; dsimp only; rw [ua_nc (by omega), ua_nc (by omega)]
theorem f7_untype (h : po_X9_untype S r S1) : ∀ (c_ : Nat) (i : Int), 70 ≤ c_ → S1.1 c_ i = S.1 c_ i := by
  rcases h with ⟨-, -, h⟩ | ⟨-, -, h⟩
  · exact f7_eq h
  · intro c_ i hc; rw [h]; dsimp only; rw [ua_nc (by omega)]
theorem f7_pick (h : po_X9_pick S x r S1) : ∀ (c_ : Nat) (i : Int), 70 ≤ c_ → S1.1 c_ i = S.1 c_ i := by
  rcases h with ⟨-, -, h⟩ | ⟨-, -, h⟩
  · exact f7_eq h
  · intro c_ i hc; rw [h]; dsimp only; rw [ua_nc (by omega), us_nc (by omega)]
theorem f7_keep (h : po_X9_keep S r S1) : ∀ (c_ : Nat) (i : Int), 70 ≤ c_ → S1.1 c_ i = S.1 c_ i := by
  rcases h with ⟨-, -, h⟩ | ⟨h1, -, V1, h2, h⟩
  · exact f7_eq h
  · intro c_ i hc; rw [h]; dsimp only; rw [us_nc (by omega)]; exact h2.2.2 c_ i (by omega) (by omega)
theorem f7_back (h0 : S.1 56 0 ≤ 2) (h : po_X9_back S r S1) : ∀ (c_ : Nat) (i : Int), 70 ≤ c_ → S1.1 c_ i = S.1 c_ i := by
  rcases h with ⟨-, -, h⟩ | ⟨h1, -, V1, h2, h⟩
  · exact f7_eq h
  · intro c_ i hc; rw [h]; dsimp only; rw [h2.2.2 c_ i (by omega) (by omega), us_nc (by omega)]
theorem f7_ways (h : po_X9_ways S x r S1) : ∀ (c_ : Nat) (i : Int), 70 ≤ c_ → S1.1 c_ i = S.1 c_ i := fun c_ i hc => h.2.1 c_ i (by omega)
theorem f7_passes (h : po_X9_passes S x r S1) : ∀ (c_ : Nat) (i : Int), 70 ≤ c_ → S1.1 c_ i = S.1 c_ i := fun c_ i hc => h.2.1 c_ i (by omega)
theorem f7_best (h : po_X9_best S x u r S1) : ∀ (c_ : Nat) (i : Int), 70 ≤ c_ → S1.1 c_ i = S.1 c_ i := fun c_ i hc => h.2.1 c_ i (by omega) (by omega)
theorem f7_brief (h : po_X9_brief S x r S1) : ∀ (c_ : Nat) (i : Int), 70 ≤ c_ → S1.1 c_ i = S.1 c_ i := fun c_ i hc => h.2.1 c_ i (by omega) (by omega) (by omega) (by omega) (by omega)
theorem f7_score (h : po_X9_score S x r S1) : ∀ (c_ : Nat) (i : Int), 70 ≤ c_ → S1.1 c_ i = S.1 c_ i := by
  rcases h with ⟨-, -, h⟩ | ⟨-, -, h, -, -⟩
  · exact f7_eq h
  · intro c_ i hc; rw [h c_ i (by omega) (by omega)]; exact skF_fr (by omega) (by omega) (by omega)
theorem skA_fr {F : Nat → Int → Int} {P : Nat → Nat} {c : Nat} {i : Int} (h1 : ¬ (10 ≤ c ∧ c < 14)) (h2 : ¬ c = 15) (h3 : ¬ c = 61) (h4 : ¬ c = 62) : ∀ k : Nat, skA F P k c i = F c i
  | 0 => rfl
  | k + 1 => by
    rw [skA]
    split
    · rw [ua_nc h2, skF_fr h1 h3 h4]; exact skA_fr h1 h2 h3 h4 k
    · rw [ua_nc h2]; exact skA_fr h1 h2 h3 h4 k
theorem aF_fr {W : Nat → Int → Int} {u : Int} {c : Nat} {i : Int} (h1 : ¬ c = 14) (h2 : ¬ c = 63) : askF W u c i = W c i := by
  unfold askF
  rw [us_nc h2, ua_nc h1, ua_nc h1, ua_nc h1, ua_nc h1, ua_nc h1, ua_nc h1]
theorem f7_list (h : po_X9_list S x r S1) : ∀ (c_ : Nat) (i : Int), 70 ≤ c_ → S1.1 c_ i = S.1 c_ i := by
  rcases h with ⟨-, -, h⟩ | ⟨-, W, h1, -, -, h⟩
  · exact f7_eq h
  · intro c_ i hc
    have e : W c_ i = S.1 c_ i := (h1 c_ i (by omega) (by omega) (by omega) (by omega)).trans (skA_fr (by omega) (by omega) (by omega) (by omega) _)
    rcases h with ⟨-, -, h⟩ | ⟨-, -, h⟩
    · rw [h]; dsimp only; rw [aF_fr (by omega) (by omega)]; exact e
    · rw [h]; exact e
theorem f7_lay (h : po_X9_lay S r S1) : ∀ (c_ : Nat) (i : Int), 70 ≤ c_ → S1.1 c_ i = S.1 c_ i := by
  rcases h with ⟨-, -, h⟩ | ⟨-, -, -, ⟨I, U, -, -, -, h1, h2⟩, -⟩
  · exact f7_eq h
  · intro c_ i hc; rw [h2, us_nc (by omega), us_nc (by omega), ua_nc (by omega)]; exact h1.2.2.2.2.2.2 c_ i (by omega) (by omega) (by omega)
end FR70
section OPL
variable {T X V PK : Int → Int} {B AG TK KP h r : Int} {S S1 : St}
theorem LI_wdT (hI : LI T X V PK B AG TK KP h S) : wdT S.1 := hI.1.2.2.2.2.2.2.2.2.1 1 (by decide)
theorem LI_nxi (hI : LI T X V PK B AG TK KP h S) : nxi S.1 := hI.1.2.2.2.2.2.2.2.2.2.2.2
theorem LI_ask (hI : LI T X V PK B AG TK KP h S) : (0 ≤ S.1 63 0 ∧ S.1 63 0 ≤ 6) ∧ ∀ i : Int, 0 ≤ i → i < 6 → 0 ≤ S.1 14 i ∧ S.1 14 i < 1099511627776 := ⟨hI.1.2.2.2.2.1.2.2.2.2.2.2.2.2, hI.1.2.2.2.2.2.2.2.2.2.2.1⟩
theorem wdT_fr {F F2 : Nat → Int → Int} (h : ∀ (c : Nat) (i : Int), c = 8 ∨ c = 16 + 1 → F2 c i = F c i) (hw : wdT F) : wdT F2 := wdT_of rfl hw.1 hw.2 (fun i => h 8 i (Or.inl rfl)) (fun i => h (16 + 1) i (Or.inr rfl))
theorem nxi_fr {F F2 : Nat → Int → Int} (hF : ∀ (c : Nat) (i : Int), 40 ≤ c ∧ c < 46 → F2 c i = F c i) (h : nxi F) : nxi F2 := fun k q a b d => by rw [hF _ _ (by omega)]; exact h k q a b d
theorem LI_h {h2 : Int} (hI : LI T X V PK B AG TK KP h S) (hh : h ≤ h2) : LI T X V PK B AG TK KP h2 S := ⟨hI.1, hI.2.1, hI.2.2.1, hI.2.2.2.1, hI.2.2.2.2.1, by have := hI.2.2.2.2.2; omega, by have := hI.2.2.2.2.2; omega⟩
/-- only the counts' row has changed -/
theorem LI_9 (hI : LI T X V PK B AG TK KP h S) (hh : h ≤ 4800) (hP : S1.2 = S.2) (hF : ∀ (c : Nat) (i : Int), ¬ c = 9 → S1.1 c i = S.1 c i) : LI T X V PK B AG TK KP h S1 := by
  have ha := LI_ask hI
  refine LI_sk hI hP (fun c i _ _ h3 _ _ _ => hF c i (by omega)) (nxi_fr (fun c i hc => hF c i (by omega)) (LI_nxi hI)) (wdT_fr (fun c i hc => hF c i (by omega)) (LI_wdT hI)) (KR_fr (fun c i _ _ => hF c i (by omega)) (LI_rg hI).2.2) ?_ (LKn_fr (fun c i _ _ => hF c i (by omega)) hI.2.2.2.1) ?_ ?_ hh
  · rw [hF 63 0 (by decide)]; exact ⟨ha.1, fun i a b => by rw [hF 14 i (by decide)]; exact ha.2 i a b⟩
  · rw [hF 61 0 (by decide)]; exact hI.2.2.2.2.2.1
  · rw [hF 62 0 (by decide)]; exact hI.2.2.2.2.2.2
theorem op_passes0 (hV : VOK V) (hI : LI T X V PK B AG TK KP h S) (hh : h ≤ 4800) (q : po_X9_passes S 0 r S1) : r = psb (PSs T X V) (T 0).toNat ∧ LI T X V PK B AG TK KP h S1 ∧ (S1.1 61 0 = S.1 61 0 ∧ S1.1 62 0 = S.1 62 0) := by
  obtain ⟨q1, q2, q3⟩ := q
  refine ⟨?_, LI_9 hI hh q1 q2, q2 61 0 (by decide), q2 62 0 (by decide)⟩
  rcases q3 with ⟨a, -⟩ | ⟨-, e⟩ | ⟨a, -⟩
  · exact absurd (Or.inl rfl) a
  · rw [e, LI_sz hI]
    exact psb_congr _ (fun y a b => LI_ps hV hI ⟨a, by omega⟩)
  · exact absurd a (by decide)
theorem op_passes1 (hT : TOK T X) (hV : VOK V) (hI : LI T X V PK B AG TK KP h S) (hh : h ≤ 4800) (q : po_X9_passes S 1 r S1) : r = psb (fun i => ¬ SC T X V i = -4) (T 0).toNat ∧ LI T X V PK B AG TK KP h S1 ∧ (S1.1 61 0 = S.1 61 0 ∧ S1.1 62 0 = S.1 62 0) := by
  obtain ⟨q1, q2, q3⟩ := q
  refine ⟨?_, LI_9 hI hh q1 q2, q2 61 0 (by decide), q2 62 0 (by decide)⟩
  rcases q3 with ⟨a, -⟩ | ⟨a, -⟩ | ⟨-, e⟩
  · exact absurd (Or.inr rfl) a
  · exact absurd a (by decide)
  · rw [e, LI_sz hI]
    exact psb_congr _ (fun y a b => by rw [LI_wy hT hV hI ⟨a, by omega⟩]; exact WY_SC hT hV ⟨a, by omega⟩)
theorem op_ways {i : Int} (hT : TOK T X) (hV : VOK V) (hI : LI T X V PK B AG TK KP h S) (hh : h ≤ 4800) (hi : 0 ≤ i ∧ i < T 0) (q : po_X9_ways S i r S1) : (0 < r ↔ ¬ SC T X V i = -4) ∧ (0 ≤ r ∧ r ≤ 4096) ∧ LI T X V PK B AG TK KP h S1 := by
  have hs := LI_sz hI
  obtain ⟨q1, q2, ⟨a, -⟩ | ⟨-, e⟩⟩ := q
  · exact absurd ⟨hi.1, by omega⟩ a
  · rw [e, LI_wy hT hV hI hi]
    have hn := (nm_sz hT hi).1
    have h1 := cwv_r (sg := SG X i) (f := Vl V) (kd := T (9 + i)) (T (1 + i)).toNat (V 0).toNat
    exact ⟨WY_SC hT hV hi, ⟨h1.1, Int.le_trans h1.2 (pow12 _ (by omega))⟩, LI_9 hI hh q1 q2⟩
theorem op_score {i : Int} (hT : TOK T X) (hV : VOK V) (hI : LI T X V PK B AG TK KP h S) (hh : h + 1 ≤ 4800) (hi : 0 ≤ i ∧ i < T 0) (q : po_X9_score S i r S1) : r = SC T X V i ∧ LI T X V PK B AG TK KP (h + 1) S1 ∧ KNW V B AG S1.1 i ∧ S1.1 61 0 + S1.1 62 0 = S.1 61 0 + S.1 62 0 + 1 ∧ (KNW V B AG S.1 i → S1.1 61 0 = S.1 61 0 + 1 ∧ S1.1 62 0 = S.1 62 0) := by
  have hs := LI_sz hI
  obtain ⟨a, -, -⟩ | ⟨-, q2, q3, q4, q5⟩ := q
  · exact absurd ⟨hi.1, by omega⟩ a
  · obtain ⟨r1, r2, r3⟩ := LI_rg hI
    obtain ⟨s1, s2, s3, s4, s5⟩ := SKF (F := S.1) (j := S.2 i.toNat) (sc := scO S.1 (S.2 i.toNat)) (code := cdO S.1) (i := i) hT hV hI.2.2.2.1 r3 hI.2.2.2.2.1.1 r1 (LI_nm hI hi).2.2.1 (r2 i hi.1 hi.2) hi (LI_sc hT hV hI hi) (LI_cd hV hI)
    have fC : ∀ (c : Nat) (j : Int), ¬ (30 ≤ c ∧ c < 46) → ¬ c = 60 → ¬ (10 ≤ c ∧ c < 14) → ¬ c = 61 → ¬ c = 62 → S1.1 c j = S.1 c j := fun c j p q s t u => (q3 c j p q).trans (skF_fr s t u)
    have ha := LI_ask hI
    have hb := hI.2.2.2.2.2
    have e61 := q3 61 0 (by decide) (by decide)
    have e62 := q3 62 0 (by decide) (by decide)
    refine ⟨by rw [q4]; exact s1, LI_sk hI q2 (fun c j _ _ g3 g4 g5 g6 => fC c j g5 (by omega) (by omega) (by omega) (by omega)) q5 (wdT_fr (fun c j hc => fC c j (by omega) (by omega) (by omega) (by omega) (by omega)) (LI_wdT hI)) (KR_fr (fun c j _ _ => q3 c j (by omega) (by omega)) s3) ?_ (LKn_fr (fun c j _ _ => q3 c j (by omega) (by omega)) s2) (by omega) (by omega) hh, KNW_fr (fun c j _ _ => q3 c j (by omega) (by omega)) s4, by omega, fun z => ?_⟩
    · rw [fC 63 0 (by decide) (by decide) (by decide) (by decide) (by decide)]
      exact ⟨ha.1, fun j a b => by rw [fC 14 j (by decide) (by decide) (by decide) (by decide) (by decide)]; exact ha.2 j a b⟩
    · rcases s5 with ⟨t1, t2, -⟩ | ⟨-, -, t3⟩
      · exact ⟨by omega, by omega⟩
      · exact absurd z t3
/-- the best way, place by place -/
theorem bpw_PL (hT : TOK T X) (hV : VOK V) {i : Int} (hi : 0 ≤ i ∧ i < T 0) (hs : ¬ SC T X V i = -4) {F : Nat → Int → Int} {bf : Int} (hb : bf = WOB T X V i) (hF : ∀ k : Int, 0 ≤ k → k < V 0 → ∀ j : Int, 0 ≤ j → j < T (1 + i) → F (40 + k.toNat) j = (TLR T X V i (V 0 - 1 - k).toNat j).2) : ∀ k : Nat, (k : Int) < V 0 → bpw F bf k = PL T X V i k
  | 0, _ => by rw [bpw, PL, hb]
  | k + 1, hk => by
    have ih := bpw_PL hT hV hi hs hb hF k (by omega)
    obtain ⟨a1, a2⟩ := PL_at hT hV hi hs k (by omega)
    have e := hF k (by omega) (by omega) (PL T X V i k) a1.1 a1.2
    rw [Int.toNat_natCast] at e
    rw [bpw, ih, if_neg (by omega), e, PL]
theorem op_best {i k : Int} (hT : TOK T X) (hV : VOK V) (hI : LI T X V PK B AG TK KP h S) (hh : h ≤ 4800) (hi : 0 ≤ i ∧ i < T 0) (hk : 0 ≤ k) (q : po_X9_best S i k r S1) : (V 0 ≤ k ∨ SC T X V i = -4 → r = -4) ∧ (k < V 0 → ¬ SC T X V i = -4 → r = PL T X V i k.toNat) ∧ LI T X V PK B AG TK KP h S1 := by
  have hs := LI_sz hI
  have hsc := LI_sc hT hV hI hi
  obtain ⟨w1, w2⟩ := LI_w hI
  obtain ⟨q1, q2, q3, q4⟩ := q
  have ha := LI_ask hI
  have hl : LI T X V PK B AG TK KP h S1 := by
    refine LI_sk hI q1 (fun c j _ _ g3 g4 g5 g6 => q2 c j (by omega) (by omega)) q3 (wdT_fr (fun c j hc => q2 c j (by omega) (by omega)) (LI_wdT hI)) (KR_fr (fun c j _ _ => q2 c j (by omega) (by omega)) (LI_rg hI).2.2) ?_ (LKn_fr (fun c j _ _ => q2 c j (by omega) (by omega)) hI.2.2.2.1) ?_ ?_ hh
    · rw [q2 63 0 (by decide) (by decide)]
      exact ⟨ha.1, fun j a b => by rw [q2 14 j (by decide) (by decide)]; exact ha.2 j a b⟩
    · rw [q2 61 0 (by decide) (by decide)]; exact hI.2.2.2.2.2.1
    · rw [q2 62 0 (by decide) (by decide)]; exact hI.2.2.2.2.2.2
  rw [hsc, w1] at q4
  rcases q4 with ⟨a, -⟩ | ⟨-, -, a, e⟩ | ⟨-, -, a, b, c, e⟩
  · rcases a with a | a
    · exact absurd ⟨hi.1, by omega⟩ a
    · exact absurd hk (by omega)
  · exact ⟨fun _ => e, fun z1 z2 => absurd a (by omega), hl⟩
  · refine ⟨fun z => absurd z (by omega), fun _ _ => ?_, hl⟩
    obtain ⟨n1, n2, n3, n4, n5, n6, n7⟩ := LI_nm hI hi
    obtain ⟨s1, s2, s3⟩ := hI.2.1.2.1
    have hn := (nm_sz hT hi).1
    have eW : wob (S.1 (20 + S.2 i.toNat)) (S.1 (16 + 0)) (S.1 3 ((S.2 i.toNat : Nat) : Int)) (S.1 6 ((S.2 i.toNat : Nat) : Int)) (S.1 53 0) (S.1 54 0) (S.1 55 0) (S.1 2 ((S.2 i.toNat : Nat) : Int)) (V 0) = WOB T X V i := by
      rw [n1, n2, n5, s1, s2, s3]
      exact wob_cs (by omega) n7 w2 hV.1.1
    have key := bpw_PL hT hV hi b (F := S1.1) eW (fun y y0 y1 j j0 j1 => by
      rw [c y y0 y1 j j0 (by rw [n1]; exact j1), n1, n2, n5, s1, s2, s3]
      rw [tlr_cs n7 w2 _ j (by omega) j0 j1]) k.toNat (by omega)
    obtain ⟨p1, -⟩ := PL_at hT hV hi b k.toNat (by omega)
    rw [e, key, if_neg (by omega)]
end OPL
