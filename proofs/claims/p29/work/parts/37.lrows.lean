/-! the law's own methods: their numbers -/
def uf (f : Int → Int) (z v : Int) : Int → Int := fun j => if j = z then v else f j
theorem uf_eq {f : Int → Int} {z v : Int} : uf f z v z = v := if_pos rfl
theorem uf_ne {f : Int → Int} {z v j : Int} (h : ¬ j = z) : uf f z v j = f j := if_neg h
theorem shr_0 (a k : Int) : 0 ≤ shr a k := by unfold shr; exact Int.natCast_nonneg _
theorem ua2 {S : St} {c c2 : Nat} {z v i : Int} (h : ¬ c2 = c) : ((ua S.1 c z v, S.2) : St).1 c2 i = S.1 c2 i := ua_nc h
def lt8 (v : Int) : Int := if v < 3 then 97 + v else if v < 6 then 62 + v else if v = 6 then 100 else 122
theorem lt8_l {v : Int} (h : 0 ≤ v ∧ v < 8) : ltr (lt8 v) := by
  unfold ltr lt8
  split
  · omega
  · split
    · omega
    · split <;> omega
section LR
variable {T X V HD PK : Int → Int} {B AG TK KP h z v : Int} {S S1 : St}
theorem AR_lt (hA : AR T X V HD S) (e : S1 = (ua S.1 70 z v, S.2)) : AR (uf T z v) X V HD S1 := by
  subst e
  refine ⟨fun i => ?_, fun i => (ua2 (by decide)).trans (hA.2.1 i), fun i => (ua2 (by decide)).trans (hA.2.2.1 i), fun i => (ua2 (by decide)).trans (hA.2.2.2 i)⟩
  dsimp only; rw [ua_at]; unfold uf
  by_cases q : i = z
  · rw [if_pos ⟨rfl, q⟩, if_pos q]
  · rw [if_neg (fun w => q w.2), if_neg q]; exact hA.1 i
theorem AR_lx (hA : AR T X V HD S) (e : S1 = (ua S.1 71 z v, S.2)) : AR T (uf X z v) V HD S1 := by
  subst e
  refine ⟨fun i => (ua2 (by decide)).trans (hA.1 i), fun i => ?_, fun i => (ua2 (by decide)).trans (hA.2.2.1 i), fun i => (ua2 (by decide)).trans (hA.2.2.2 i)⟩
  dsimp only; rw [ua_at]; unfold uf
  by_cases q : i = z
  · rw [if_pos ⟨rfl, q⟩, if_pos q]
  · rw [if_neg (fun w => q w.2), if_neg q]; exact hA.2.1 i
theorem AR_lw (hA : AR T X V HD S) (e : S1 = (ua S.1 72 z v, S.2)) : AR T X (uf V z v) HD S1 := by
  subst e
  refine ⟨fun i => (ua2 (by decide)).trans (hA.1 i), fun i => (ua2 (by decide)).trans (hA.2.1 i), fun i => ?_, fun i => (ua2 (by decide)).trans (hA.2.2.2 i)⟩
  dsimp only; rw [ua_at]; unfold uf
  by_cases q : i = z
  · rw [if_pos ⟨rfl, q⟩, if_pos q]
  · rw [if_neg (fun w => q w.2), if_neg q]; exact hA.2.2.1 i
theorem AR_lhad (hA : AR T X V HD S) (e : S1 = (ua S.1 73 z v, S.2)) : AR T X V (uf HD z v) S1 := by
  subst e
  refine ⟨fun i => (ua2 (by decide)).trans (hA.1 i), fun i => (ua2 (by decide)).trans (hA.2.1 i), fun i => (ua2 (by decide)).trans (hA.2.2.1 i), fun i => ?_⟩
  dsimp only; rw [ua_at]; unfold uf
  by_cases q : i = z
  · rw [if_pos ⟨rfl, q⟩, if_pos q]
  · rw [if_neg (fun w => q w.2), if_neg q]; exact hA.2.2.2 i
theorem LI_ar {c : Nat} (hc : 70 ≤ c) (hh : h ≤ 4800) (hI : LI T X V PK B AG TK KP h S) (e : S1 = (ua S.1 c z v, S.2)) : LI T X V PK B AG TK KP h S1 := by
  have f : ∀ (c2 : Nat) (i : Int), c2 < 70 → S1.1 c2 i = S.1 c2 i := fun c2 i a => by rw [e]; exact ua_nc (by omega)
  have ha := LI_ask hI
  refine LI_sk0 hI (by rw [e]) (fun c2 i a _ _ _ _ _ _ => f c2 i (by omega)) (nxi_fr (fun c2 i hc => f c2 i (by omega)) (LI_nxi hI)) (wdT_fr (fun c2 i hc => f c2 i (by omega)) (LI_wdT hI)) (KR_fr (fun c2 i _ _ => f c2 i (by omega)) (LI_rg hI).2.2) ?_ (LKn_fr (fun c2 i _ _ => f c2 i (by omega)) hI.2.2.2.1) ?_ ?_ hh
  · rw [f 63 0 (by decide)]; exact ⟨ha.1, fun i a b => by rw [f 14 i (by decide)]; exact ha.2 i a b⟩
  · rw [f 61 0 (by decide)]; exact hI.2.2.2.2.2.1
  · rw [f 62 0 (by decide)]; exact hI.2.2.2.2.2.2
theorem cnt_4 {r : Int} (q : po_X9_count S 4 r S1) : r = S.1 52 0 ∧ S1 = S := ⟨q.1.trans rfl, q.2⟩
theorem cnt_5 {r : Int} (q : po_X9_count S 5 r S1) : r = S.1 57 0 ∧ S1 = S := ⟨q.1.trans rfl, q.2⟩
theorem cnt_6 {r : Int} (q : po_X9_count S 6 r S1) : r = S.1 58 0 ∧ S1 = S := ⟨q.1.trans rfl, q.2⟩
theorem cnt_7 {r : Int} (q : po_X9_count S 7 r S1) : r = S.1 61 0 ∧ S1 = S := ⟨q.1.trans rfl, q.2⟩
theorem cnt_8 {r : Int} (q : po_X9_count S 8 r S1) : r = S.1 62 0 ∧ S1 = S := ⟨q.1.trans rfl, q.2⟩
theorem cnt_12 {r : Int} (hV : VOK V) (hI : LI T X V PK B AG TK KP h S) (q : po_X9_count S 12 r S1) : r = CD V % 100003 ∧ S1 = S := ⟨by
  have e : r = cdO S.1 % 100003 := q.1.trans rfl
  rw [e, LI_cd hV hI], q.2⟩
end LR
theorem alk_low {c u kd : Int} (hc : sgn c) (hu : ltr u) : alk c kd u ↔ (if kd = 1 then c = u else lowv c = lowv u) := by
  have h1 := low_ltr hc hu
  unfold alk
  split
  · rename_i e
    exact ⟨fun q => q.elim (fun z => z) (fun z => absurd e z.1), fun q => Or.inl q⟩
  · rename_i e
    rw [h1]
    unfold sgn ltr at *
    constructor
    · rintro (q | ⟨-, q1, q2⟩)
      · rw [q]; exact ⟨hu, rfl⟩
      · exact ⟨q1, by rw [q2]⟩
    · rintro ⟨q1, q2⟩
      refine Or.inr ⟨e, q1, ?_⟩
      have := lnum_l c q1
      have := lnum_l u hu
      omega
theorem bgP_sg {Y : Int → Int} {i k : Int} : bgP (SG Y i) k ↔ ((97 ≤ sgv (Y i) k ∧ sgv (Y i) k ≤ 122) ∨ (65 ≤ sgv (Y i) k ∧ sgv (Y i) k ≤ 90)) ∧ (k = 0 ∨ sgv (Y i) (k - 1) = 95 ∨ ((65 ≤ sgv (Y i) k ∧ sgv (Y i) k ≤ 90) ∧ (97 ≤ sgv (Y i) (k - 1) ∧ sgv (Y i) (k - 1) ≤ 122))) := Iff.rfl
theorem bits_step (v : Int) (n : Nat) : cq (fun y_ => shr v y_ % 2 = 1) n + shr v n % 2 = cq (fun y_ => shr v y_ % 2 = 1) (n + 1) := by
  by_cases z : shr v n % 2 = 1
  · rw [cq_yes (Q := fun y_ => shr v y_ % 2 = 1) z, z]
  · rw [cq_no (Q := fun y_ => shr v y_ % 2 = 1) z]; omega
theorem opl_y {s : Int → Int} {n kd b q : Int} (h : 0 ≤ q ∧ q < n) (hb : bgP s q) : opl (bgv s n.toNat) kd b q = 50 + (if kd = 2 ∧ q = 0 then 2 * b else b) := by
  unfold opl
  rw [if_neg (fun z => (bgv_band h.1 (by omega)).mp z hb)]
  split <;> rfl
theorem opl_n {s : Int → Int} {n kd b q : Int} (h : 0 ≤ q ∧ q < n) (hb : ¬ bgP s q) : opl (bgv s n.toNat) kd b q = 50 := by
  unfold opl
  rw [if_pos ((bgv_band h.1 (by omega)).mpr hb)]
theorem ost_1 {kd r g q x : Int} (h : x = q + 1) : ost kd r g q x = r := if_pos h
theorem ost_3 {kd r g q x : Int} (h : ¬ x = q + 1) (h3 : kd = 3) : ost kd r g q x = 0 := by unfold ost; rw [if_neg h, if_pos h3]
theorem ost_g {kd r g q x : Int} (h : ¬ x = q + 1) (h3 : ¬ kd = 3) : ost kd r g q x = 0 - g * ((x - q) - 1) := by unfold ost; rw [if_neg h, if_neg h3, Int.neg_mul]; omega
/-- the sum over the best way, letter by letter; the place ahead -/
def BF (T X V : Int → Int) (i : Int) : Nat → Int
  | 0 => -1
  | n + 1 => PL T X V i n
abbrev OPl (T X V : Int → Int) (i : Int) (n : Nat) : Int := opl (bgv (SG X i) (T (1 + i)).toNat) (T (9 + i)) (T 17) (PL T X V i n)
abbrev OSt (T X V : Int → Int) (i : Int) (n : Nat) : Int := ost (T (9 + i)) (T 18) (T 19) (BF T X V i n) (PL T X V i n)
def WSm (T X V : Int → Int) (i : Int) : Nat → Int
  | 0 => 0
  | n + 1 => WSm T X V i n + OPl T X V i n + (if n = 0 then 0 else OSt T X V i n)
section WSM
variable {T X V : Int → Int} {i : Int}
theorem BF_lt (hT : TOK T X) (hV : VOK V) (hi : 0 ≤ i ∧ i < T 0) (h : ¬ SC T X V i = -4) (n : Nat) (hn : (n : Int) < V 0) : (-1 ≤ BF T X V i n ∧ BF T X V i n < PL T X V i n) ∧ (0 ≤ PL T X V i n ∧ PL T X V i n < T (1 + i)) ∧ PL T X V i n < 12 := by
  have h1 := PL_at hT hV hi h n hn
  have h2 := (nm_sz hT hi).1
  cases n with
  | zero => rw [BF]; omega
  | succ n =>
    have h3 := PL_at hT hV hi h n (by omega)
    rcases (PL_st hT hV hi h n (by omega)).2 with ⟨z, -⟩ | ⟨-, z, -⟩
    · omega
    · rw [BF]; omega
theorem WSm_s (hT : TOK T X) (hV : VOK V) (hi : 0 ≤ i ∧ i < T 0) (h : ¬ SC T X V i = -4) : ∀ n : Nat, (n : Int) + 1 ≤ V 0 → WSm T X V i (n + 1) + (TLR T X V i (V 0 - 1 - n).toNat (PL T X V i n)).1 = SC T X V i + OPl T X V i n
  | 0, hn => by
    obtain ⟨-, a⟩ := wor_wob hT hV hi (by omega) h
    rw [WSm, WSm, if_pos rfl, show (V 0 - 1 - ((0 : Nat) : Int)).toNat = (V 0 - 1).toNat by omega]
    show 0 + OPl T X V i 0 + 0 + (TLR T X V i (V 0 - 1).toNat (WOB T X V i)).1 = _
    rw [← a]; omega
  | n + 1, hn => by
    have ih := WSm_s hT hV hi h n (by omega)
    rcases (PL_st hT hV hi h n (by omega)).2 with ⟨z, -⟩ | ⟨-, -, z⟩
    · omega
    · rw [WSm, if_neg (by omega)]
      have e : OSt T X V i (n + 1) = ost (T (9 + i)) (T 18) (T 19) (PL T X V i n) (PL T X V i (n + 1)) := rfl
      rw [e]
      have z2 : (TLR T X V i (V 0 - 1 - (n : Int)).toNat (PL T X V i n)).1 = OPl T X V i n + ((TLR T X V i (V 0 - 1 - ((n + 1 : Nat) : Int)).toNat (PL T X V i (n + 1))).1 + ost (T (9 + i)) (T 18) (T 19) (PL T X V i n) (PL T X V i (n + 1))) := z
      omega
theorem WSm_all (hT : TOK T X) (hV : VOK V) (hi : 0 ≤ i ∧ i < T 0) (h : ¬ SC T X V i = -4) (n : Nat) (hn : (n : Int) = V 0) : WSm T X V i n = SC T X V i := by
  cases n with
  | zero => rw [WSm]; unfold SC wor; rw [if_pos (by omega)]
  | succ n =>
    have ih := WSm_s hT hV hi h n (by omega)
    rcases (PL_st hT hV hi h n (by omega)).2 with ⟨-, z⟩ | ⟨z, -⟩
    · have z2 : (TLR T X V i (V 0 - 1 - (n : Int)).toNat (PL T X V i n)).1 = OPl T X V i n := z
      omega
    · omega
end WSM
