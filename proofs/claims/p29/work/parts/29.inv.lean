/-! the law's numbers: what is drawn, what is laid, the word, what is known; a score, its places -/
def sg8 (v : Int) : Int := if v < 3 then 97 + v else if v < 6 then 62 + v else if v = 6 then 95 else 122
def sgv (x k : Int) : Int := sg8 (shr x (3 * k) % 8)
abbrev SG (X : Int → Int) (i : Int) : Int → Int := fun k => sgv (X i) k
theorem sg8_s (v : Int) (h : 0 ≤ v ∧ v < 8) : sgn (sg8 v) := by
  unfold sgn sg8
  split
  · omega
  · split
    · omega
    · split <;> omega
theorem sgv_s (x k : Int) : sgn (sgv x k) := sg8_s _ (by omega)
def TOK (T X : Int → Int) : Prop := (1 ≤ T 0 ∧ T 0 ≤ 8) ∧ (∀ i : Int, 0 ≤ i → i < 8 → (1 ≤ T (1 + i) ∧ T (1 + i) ≤ 12) ∧ (0 ≤ T (9 + i) ∧ T (9 + i) ≤ 3) ∧ (0 ≤ X i ∧ X i < 68719476736)) ∧ (0 ≤ T 17 ∧ T 17 ≤ 9) ∧ (0 ≤ T 18 ∧ T 18 ≤ 9) ∧ (0 ≤ T 19 ∧ T 19 ≤ 9)
def VOK (V : Int → Int) : Prop := (0 ≤ V 0 ∧ V 0 ≤ 6) ∧ ∀ k : Int, 0 ≤ k → k < V 0 → ltr (V (1 + k))
abbrev Vl (V : Int → Int) : Int → Int := fun k => V (1 + k)
def AR (T X V HD : Int → Int) (S : St) : Prop := (∀ i : Int, S.1 70 i = T i) ∧ (∀ i : Int, S.1 71 i = X i) ∧ (∀ i : Int, S.1 72 i = V i) ∧ ∀ i : Int, S.1 73 i = HD i
theorem AR_fr {T X V HD : Int → Int} {S S1 : St} (h : ∀ (c_ : Nat) (i : Int), 70 ≤ c_ → S1.1 c_ i = S.1 c_ i) (a : AR T X V HD S) : AR T X V HD S1 := ⟨fun i => (h 70 i (by decide)).trans (a.1 i), fun i => (h 71 i (by decide)).trans (a.2.1 i), fun i => (h 72 i (by decide)).trans (a.2.2.1 i), fun i => (h 73 i (by decide)).trans (a.2.2.2 i)⟩
/-- the score of name i by the word, its code -/
def SC (T X V : Int → Int) (i : Int) : Int := wor (SG X i) (Vl V) (T (9 + i)) (bgv (SG X i) (T (1 + i)).toNat) (T 17) (T 18) (T 19) (T (1 + i)) (V 0)
def CD (V : Int → Int) : Int := cdv (Vl V) (V 0).toNat
abbrev WY (T X V : Int → Int) (i : Int) : Int := cwv (SG X i) (Vl V) (T (9 + i)) (T (1 + i)).toNat (V 0).toNat
abbrev PSs (T X V : Int → Int) (i : Int) : Prop := bandn (wlb (Vl V) (V 0).toNat) (lbv (SG X i) (T (1 + i)).toNat) = 0
def nmL (T X PK : Int → Int) (B : Int) (F : Nat → Int → Int) (p : Nat) (i : Int) : Prop := F 2 (p : Int) = T (1 + i) ∧ F 3 (p : Int) = T (9 + i) ∧ F 4 (p : Int) = B + i ∧ F 5 (p : Int) = PK i ∧ F 6 (p : Int) = bgv (SG X i) (T (1 + i)).toNat ∧ F 7 (p : Int) = lbv (SG X i) (T (1 + i)).toNat ∧ ∀ k : Int, 0 ≤ k → k < T (1 + i) → F (20 + p) k = SG X i k
def LNm (T X PK : Int → Int) (B : Int) (S : St) : Prop := S.1 51 0 = T 0 ∧ (S.1 53 0 = T 17 ∧ S.1 54 0 = T 18 ∧ S.1 55 0 = T 19) ∧ ∀ i : Int, 0 ≤ i → i < T 0 → nmL T X PK B S.1 (S.2 i.toNat) i
def LWd (V : Int → Int) (S : St) : Prop := S.1 8 0 = V 0 ∧ ∀ k : Int, 0 ≤ k → k < V 0 → S.1 (16 + 0) k = V (1 + k)
/-- what is known is so -/
def LKn (T X : Int → Int) (B AG : Int) (F : Nat → Int → Int) : Prop := ∀ q : Int, 0 ≤ q → q < 32 → F 12 q ≤ AG ∧ (F 12 q = AG → ∀ i : Int, 0 ≤ i → i < T 0 → F 10 q = B + i → ∀ V : Int → Int, VOK V → CD V = F 11 q → F 13 q = SC T X V i)
/-- the score of name i lies at its place -/
def KNW (V : Int → Int) (B AG : Int) (F : Nat → Int → Int) (i : Int) : Prop := F 10 (((31 * (B + i) + 7 * CD V) + AG) % 32) = B + i ∧ F 11 (((31 * (B + i) + 7 * CD V) + AG) % 32) = CD V ∧ F 12 (((31 * (B + i) + 7 * CD V) + AG) % 32) = AG
def LI (T X V PK : Int → Int) (B AG TK KP h : Int) (S : St) : Prop := CI S 600 ∧ LNm T X PK B S ∧ LWd V S ∧ LKn T X B AG S.1 ∧ (S.1 58 0 = AG ∧ S.1 57 0 = TK ∧ S.1 52 0 = B + T 0 ∧ S.1 56 0 = KP) ∧ (0 ≤ S.1 61 0 ∧ S.1 61 0 ≤ h) ∧ (0 ≤ S.1 62 0 ∧ S.1 62 0 ≤ h)
def POK (T PK : Int → Int) (TK : Int) : Prop := ∀ i : Int, 0 ≤ i → i < T 0 → (0 ≤ PK i ∧ PK i ≤ TK) ∧ ∀ j : Int, 0 ≤ j → j < T 0 → ¬ i = j → PK i = PK j → PK i = 0
/-! a code tells its word -/
theorem lc_inj {a b x y : Int} (ha : ltr a) (hb : ltr b) (h : 53 * x + (if 65 ≤ a ∧ a ≤ 90 then 26 else 0) + lnum a + 1 = 53 * y + (if 65 ≤ b ∧ b ≤ 90 then 26 else 0) + lnum b + 1) : a = b ∧ x = y := by
  unfold lnum ltr at *
  split at h <;> split at h <;> split at h <;> split at h <;> omega
theorem wor_cs {s v f g_ : Int → Int} {kd b r g n m : Int} (hB : 0 ≤ b ∧ b ≤ 9) (hR : 0 ≤ r ∧ r ≤ 9) (hG : 0 ≤ g ∧ g ≤ 9) (hn : 0 ≤ n ∧ n ≤ 12) (hs : ∀ k : Int, 0 ≤ k → k < n → s k = v k) (hf : ∀ i : Int, 0 ≤ i → i < m → f i = g_ i) (hm : 0 ≤ m) : wor s f kd (bgv s n.toNat) b r g n m = wor v g_ kd (bgv v n.toNat) b r g n m := by
  rw [← (resS_w (s := s) (f := f) (kd := kd) hB hR hG hn hm).1, ← (resS_w (s := v) (f := g_) (kd := kd) hB hR hG hn hm).1, resS_cs hn.1 hs hf hm]
theorem cdv_inj {f g : Int → Int} : ∀ (n m : Nat), (∀ i : Int, 0 ≤ i → i < n → ltr (f i)) → (∀ i : Int, 0 ≤ i → i < m → ltr (g i)) → cdv f n = cdv g m → n = m ∧ ∀ i : Int, 0 ≤ i → i < n → f i = g i
  | 0, 0, _, _, _ => ⟨rfl, fun i a b => absurd b (by omega)⟩
  | 0, m + 1, hf, hg, h => by
    have h1 := (cdv_p m (fun i a b => hg i a (by omega))).1
    have h2 := (lnum_l (g m) (hg m (by omega) (by omega))).1
    rw [cdv, cdv] at h
    split at h <;> omega
  | n + 1, 0, hf, hg, h => by
    have h1 := (cdv_p n (fun i a b => hf i a (by omega))).1
    have h2 := (lnum_l (f n) (hf n (by omega) (by omega))).1
    rw [cdv, cdv] at h
    split at h <;> omega
  | n + 1, m + 1, hf, hg, h => by
    rw [cdv, cdv] at h
    obtain ⟨e1, e2⟩ := lc_inj (hf n (by omega) (by omega)) (hg m (by omega) (by omega)) (x := cdv f n) (y := cdv g m) (by omega)
    obtain ⟨i1, i2⟩ := cdv_inj n m (fun i a b => hf i a (by omega)) (fun i a b => hg i a (by omega)) e2
    subst i1
    refine ⟨rfl, fun i a b => ?_⟩
    rcases Int.lt_or_le i n with z | z
    · exact i2 i a z
    · rw [show i = (n : Int) by omega]; exact e1
theorem cdv_cs {f g : Int → Int} : ∀ n : Nat, (∀ i : Int, 0 ≤ i → i < n → f i = g i) → cdv f n = cdv g n
  | 0, _ => rfl
  | n + 1, h => by rw [cdv, cdv, cdv_cs n (fun i a b => h i a (by omega)), h n (by omega) (by omega)]
theorem CD_r {V : Int → Int} (h : VOK V) : 0 ≤ CD V ∧ CD V < 22164361129 := cdv_r (V 0).toNat (by have := h.1; omega) (fun i a b => h.2 i a (by have := h.1; omega))
section SCL
variable {T X : Int → Int}

theorem SC_cd (hT : TOK T X) {V V2 : Int → Int} {i : Int} (hi : 0 ≤ i ∧ i < T 0) (hV : VOK V) (hV2 : VOK V2) (h : CD V = CD V2) : SC T X V i = SC T X V2 i := by
  have hn := (hT.2.1 i hi.1 (by have := hT.1; omega)).1
  have h1 := hV.1
  have h2 := hV2.1
  obtain ⟨e1, e2⟩ := cdv_inj (V 0).toNat (V2 0).toNat (fun k a b => hV.2 k a (by omega)) (fun k a b => hV2.2 k a (by omega)) h
  have e3 : V 0 = V2 0 := by omega
  unfold SC
  rw [wor_cs hT.2.2.1 hT.2.2.2.1 hT.2.2.2.2 (by omega) (fun k _ _ => rfl) (fun k a b => e2 k a (by omega)) h1.1, e3]
theorem SC_r (hT : TOK T X) {V : Int → Int} {i : Int} (hi : 0 ≤ i ∧ i < T 0) (hV : VOK V) : -1000 ≤ SC T X V i ∧ SC T X V i ≤ 1000 := by
  have hn := (hT.2.1 i hi.1 (by have := hT.1; omega)).1
  exact wor_r hT.2.2.1 hT.2.2.2.1 hT.2.2.2.2 (by omega) hV.1
end SCL
/-! a score is sought -/
def KR (F : Nat → Int → Int) : Prop := ∀ q : Int, 0 ≤ q → q < 32 → (-100000 ≤ F 10 q ∧ F 10 q ≤ 100000) ∧ (0 ≤ F 11 q ∧ F 11 q < 1099511627776) ∧ (0 ≤ F 12 q ∧ F 12 q ≤ 100000) ∧ (-1000 ≤ F 13 q ∧ F 13 q ≤ 1000)
theorem KR_fr {F F2 : Nat → Int → Int} (h : ∀ (c_ : Nat) (i : Int), 10 ≤ c_ → c_ < 14 → F2 c_ i = F c_ i) (k : KR F) : KR F2 := fun q a b => by rw [h 10 q (by decide) (by decide), h 11 q (by decide) (by decide), h 12 q (by decide) (by decide), h 13 q (by decide) (by decide)]; exact k q a b
theorem LKn_fr {T X : Int → Int} {B AG : Int} {F F2 : Nat → Int → Int} (h : ∀ (c_ : Nat) (i : Int), 10 ≤ c_ → c_ < 14 → F2 c_ i = F c_ i) (k : LKn T X B AG F) : LKn T X B AG F2 := fun q a b => by rw [h 10 q (by decide) (by decide), h 11 q (by decide) (by decide), h 12 q (by decide) (by decide), h 13 q (by decide) (by decide)]; exact k q a b
theorem KNW_fr {V : Int → Int} {B AG i : Int} {F F2 : Nat → Int → Int} (h : ∀ (c_ : Nat) (i : Int), 10 ≤ c_ → c_ < 14 → F2 c_ i = F c_ i) (k : KNW V B AG F i) : KNW V B AG F2 i := by
  unfold KNW
  rw [h 10 _ (by decide) (by decide), h 11 _ (by decide) (by decide), h 12 _ (by decide) (by decide)]; exact k
theorem SKF {T X V : Int → Int} {B AG i sc code : Int} {F : Nat → Int → Int} {j : Nat} (hT : TOK T X) (hV : VOK V) (hK : LKn T X B AG F) (hR : KR F) (h58 : F 58 0 = AG) (hAG : 0 ≤ AG ∧ AG ≤ 100000) (h4 : F 4 (j : Int) = B + i) (hB : 0 ≤ B + i ∧ B + i ≤ 100000) (hi : 0 ≤ i ∧ i < T 0) (hsc : sc = SC T X V i) (hcd : code = CD V) :
    (skF F j sc code).2 = SC T X V i ∧ LKn T X B AG (skF F j sc code).1 ∧ KR (skF F j sc code).1 ∧ KNW V B AG (skF F j sc code).1 i ∧ (((skF F j sc code).1 61 0 = F 61 0 + 1 ∧ (skF F j sc code).1 62 0 = F 62 0 ∧ KNW V B AG F i) ∨ ((skF F j sc code).1 61 0 = F 61 0 ∧ (skF F j sc code).1 62 0 = F 62 0 + 1 ∧ ¬ KNW V B AG F i)) := by
  subst hsc hcd
  have hp : plc F j (CD V) = ((31 * (B + i) + 7 * CD V) + AG) % 32 := by unfold plc; rw [h4, h58]
  have hpr := plc_r (F := F) (j := j) (code := CD V)
  unfold skF
  rw [h4, h58]
  unfold KNW
  rw [← hp]
  generalize plc F j (CD V) = P at *
  by_cases hh : F 10 P = B + i ∧ F 11 P = CD V ∧ F 12 P = AG
  · rw [if_pos hh]
    have f : ∀ (c_ : Nat) (i : Int), 10 ≤ c_ → c_ < 14 → us F 61 (F 61 0 + 1) c_ i = F c_ i := fun c_ i a b => us_nc (by omega)
    refine ⟨(hK P hpr.1 hpr.2).2 hh.2.2 i hi.1 hi.2 hh.1 V hV hh.2.1.symm, LKn_fr f hK, KR_fr f hR, ?_, Or.inl ⟨show us F 61 (F 61 0 + 1) 61 0 = _ from us_eq, show us F 61 (F 61 0 + 1) 62 0 = _ from us_nc (by decide), hh⟩⟩
    dsimp only
    rw [us_nc (by decide), us_nc (by decide), us_nc (by decide)]; exact hh
  · rw [if_neg hh]
    dsimp only
    have e10 : ∀ q : Int, (ua (ua (ua (ua (us F 62 (F 62 0 + 1)) 10 P (B + i)) 11 P (CD V)) 12 P AG) 13 P (SC T X V i)) 10 q = if q = P then B + i else F 10 q := fun q => by
      rw [ua_nc (by decide), ua_nc (by decide), ua_nc (by decide), ua_at, us_nc (by decide)]; simp
    have e11 : ∀ q : Int, (ua (ua (ua (ua (us F 62 (F 62 0 + 1)) 10 P (B + i)) 11 P (CD V)) 12 P AG) 13 P (SC T X V i)) 11 q = if q = P then CD V else F 11 q := fun q => by
      rw [ua_nc (by decide), ua_nc (by decide), ua_at, ua_nc (by decide), us_nc (by decide)]; simp
    have e12 : ∀ q : Int, (ua (ua (ua (ua (us F 62 (F 62 0 + 1)) 10 P (B + i)) 11 P (CD V)) 12 P AG) 13 P (SC T X V i)) 12 q = if q = P then AG else F 12 q := fun q => by
      rw [ua_nc (by decide), ua_at, ua_nc (by decide), ua_nc (by decide), us_nc (by decide)]; simp
    have e13 : ∀ q : Int, (ua (ua (ua (ua (us F 62 (F 62 0 + 1)) 10 P (B + i)) 11 P (CD V)) 12 P AG) 13 P (SC T X V i)) 13 q = if q = P then SC T X V i else F 13 q := fun q => by
      rw [ua_at, ua_nc (by decide), ua_nc (by decide), ua_nc (by decide), us_nc (by decide)]; simp
    have c1 := CD_r hV
    have c2 := SC_r hT hi hV
    refine ⟨rfl, fun q a b => ?_, fun q a b => ?_, ?_, Or.inr ⟨?_, ?_, hh⟩⟩
    · rw [e10, e11, e12, e13]
      by_cases e : q = P
      · rw [if_pos e, if_pos e, if_pos e, if_pos e]
        refine ⟨Int.le_refl _, fun _ y y0 y1 hy V2 hV2 h2 => ?_⟩
        have e2 : i = y := by omega
        subst e2
        exact SC_cd hT hi hV hV2 h2.symm
      · rw [if_neg e, if_neg e, if_neg e, if_neg e]; exact hK q a b
    · rw [e10, e11, e12, e13]
      by_cases e : q = P
      · rw [if_pos e, if_pos e, if_pos e, if_pos e]; omega
      · rw [if_neg e, if_neg e, if_neg e, if_neg e]; exact hR q a b
    · rw [e10, e11, e12, if_pos rfl, if_pos rfl, if_pos rfl]; exact ⟨rfl, rfl, rfl⟩
    · rw [ua_nc (by decide), ua_nc (by decide), ua_nc (by decide), ua_nc (by decide), us_nc (by decide)]
    · rw [ua_nc (by decide), ua_nc (by decide), ua_nc (by decide), ua_nc (by decide), us_eq]
