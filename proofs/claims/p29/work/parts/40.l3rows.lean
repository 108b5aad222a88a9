/-! rows and facts for ordered, first, types, lays -/
theorem iI_div {a b : Int} (h0 : 0 ≤ a) (h1 : a < 2147483648) (h2 : 0 < b) (h3 : b < 2147483648) : iI a / iI b = iI (a / b) := by
  obtain ⟨x, rfl⟩ : ∃ n : Nat, a = n := ⟨a.toNat, by omega⟩
  obtain ⟨y, rfl⟩ : ∃ n : Nat, b = n := ⟨b.toNat, by omega⟩
  rw [iI_nat, iI_nat, pk_div (by omega) (by omega) (by omega), ← Int.natCast_ediv, iI_nat]
section DROW
variable {p : Program} {l : Launch} {e : Env} {R : Room} {s : State} {m : MethodId} {args : Array Value} {below : List Frame} {meth : Method} {c : Code} {H : Heap} {locs : List Loc} {cells slots : Nat} {Q : State → Prop}
variable {cc : ByteArray} {pc nL : Nat} {ls : Array Slot} {rest : List Value} {own : String}
theorem ri_div (X : CallFix p m c cc nL s args TB own) {a b v : Int} (hv : a / b = v) (ha : 0 ≤ a ∧ a < 2147483648) (hb : 0 < b ∧ b < 2147483648) (hdg : decode cc pc = .ok (.idiv, 1)) (k : W p l e R s m args below meth c H locs cells slots Q (F0 m (pc + 1) ls (.int (iI v) :: rest))) : W p l e R s m args below meth c H locs cells slots Q (F0 m pc ls (.int (iI b) :: .int (iI a) :: rest)) := by
  refine lv_idiv X.1 X.2.1 hdg (fun h => ?_) ?_
  · have := (iI_eq (by omega) (by omega)).mp (show iI b = iI 0 from h)
    omega
  · rw [iI_div ha.1 ha.2 hb.1 hb.2, hv]; exact k
end DROW
/-! what was seen in the list so far -/
def SEEN (g : Int → Int) (n : Int) : Int → Prop := fun y => ∃ j : Int, (0 ≤ j ∧ j < n) ∧ g j = y
def LST (g : Int → Int) : Nat → Int
  | 0 => -1
  | n + 1 => g n
theorem bor_add {a : Int} {n : Nat} (h0 : 0 ≤ a) (h : a < pw n) : bor a (pw n) = a + pw n := by
  obtain ⟨x, rfl⟩ : ∃ n : Nat, a = n := ⟨a.toNat, by omega⟩
  unfold bor pw at *
  rw [Int.toNat_natCast, Int.toNat_natCast] at *
  have e := Nat.two_pow_add_eq_or_of_lt (i := n) (b := x) (by omega) 1
  rw [Nat.mul_one] at e
  have e2 : ((n : Int)).toNat = n := Int.toNat_natCast n
  rw [Nat.or_comm, e2, ← e]; omega
theorem psb_add {Q : Int → Prop} {x : Int} (hx : 0 ≤ x) (hq : ¬ Q x) : ∀ n : Nat, n ≤ 30 → x < n → psb Q n + pw x = psb (fun y => Q y ∨ y = x) n
  | 0, _, h => absurd h (by omega)
  | n + 1, hn, h => by
    have l1 := psb_lt Q n (by omega)
    have r1 := psb_r Q n (by omega)
    by_cases e : x = n
    · subst e
      have c := psb_congr (Pr := Q) (Q := fun y => Q y ∨ y = (n : Int)) n (fun y a b => ⟨fun z => Or.inl z, fun z => z.elim (fun w => w) (fun w => absurd b (by omega))⟩)
      rw [psb, if_neg hq, psb, if_pos (Or.inr rfl), ← c, bor_add r1.1 l1]
    · have ih := psb_add hx hq n (by omega) (by omega)
      have l2 := psb_lt (fun y => Q y ∨ y = x) n (by omega)
      have r2 := psb_r (fun y => Q y ∨ y = x) n (by omega)
      by_cases z : Q n
      · rw [psb, if_pos z, psb, if_pos (Or.inl z), bor_add r1.1 l1, bor_add r2.1 l2]; omega
      · rw [psb, if_neg z, psb, if_neg (fun w => w.elim z (fun w => e w.symm))]; exact ih
theorem seen_add {g : Int → Int} {k n : Nat} (hx : 0 ≤ g k ∧ g k < n) (hn : n ≤ 30) (hq : ¬ SEEN g k (g k)) : psb (SEEN g k) n + pw (g k) = psb (SEEN g ((k + 1 : Nat) : Int)) n := by
  rw [psb_add hx.1 hq n hn hx.2]
  refine psb_congr n (fun y _ _ => ⟨?_, ?_⟩)
  · rintro (⟨j, a, b⟩ | a)
    · exact ⟨j, by omega, b⟩
    · exact ⟨k, by omega, a.symm⟩
  · rintro ⟨j, a, b⟩
    rcases Int.lt_or_le j k with z | z
    · exact Or.inl ⟨j, ⟨a.1, z⟩, b⟩
    · right; rw [← b, show j = (k : Int) by omega]
theorem seen_no {T X V PK g : Int → Int} {m : Int} (h : RKL T X V PK g m) {k : Nat} (hk : (k : Int) < m) : ¬ SEEN g k (g k) := by
  rintro ⟨j, a, b⟩
  have := RKL_inj h ⟨a.1, by omega⟩ ⟨by omega, hk⟩ b
  omega
theorem seen_all {T X V PK g : Int → Int} {m : Int} (h : RKL T X V PK g m) (n : Nat) (hn : (n : Int) = T 0) {k : Nat} (hk : (k : Int) = m) : psb (SEEN g k) n = psb (fun y_ => ¬ SC T X V y_ = -4) n := by
  refine psb_congr n (fun y a b => ⟨?_, fun z => ?_⟩)
  · rintro ⟨j, c, d⟩
    rw [← d]; exact (h.2.1 j c.1 (by omega)).2
  · obtain ⟨j, c, d⟩ := h.2.2.2 y a (by omega) z
    exact ⟨j, by omega, d⟩
theorem LST_at {T X V PK g : Int → Int} {m : Int} (h : RKL T X V PK g m) {n : Nat} (h0 : 0 < n) (hn : (n : Int) < m) : (0 ≤ LST g n ∧ LST g n < T 0) ∧ ahL T X V PK (LST g n) (g n) ∧ ¬ LST g n = g n := by
  obtain ⟨k, rfl⟩ : ∃ k, n = k + 1 := ⟨n - 1, by omega⟩
  rw [LST]
  obtain ⟨a, -⟩ := h.2.1 k (by omega) (by omega)
  refine ⟨a, h.2.2.1 k _ (by omega) (by omega) hn, fun e => ?_⟩
  have := RKL_inj h ⟨by omega, by omega⟩ ⟨by omega, hn⟩ e
  omega
/-! words shorter by some letters -/
def VD (V : Int → Int) (n : Nat) : Int → Int := uf V 0 (V 0 - n)
theorem VD_0 (V : Int → Int) : VD V 0 = V := by
  funext j
  unfold VD uf
  split
  · rename_i e; rw [e]; omega
  · rfl
theorem VD_h (V : Int → Int) (n : Nat) : VD V n 0 = V 0 - n := uf_eq
theorem VD_k (V : Int → Int) (n : Nat) {j : Int} (h : ¬ j = 0) : VD V n j = V j := uf_ne h
section WRD
variable {T X V PK : Int → Int} {B AG TK KP h r k : Int} {S S1 : St}
theorem wrd_m (hI : LI T X V PK B AG TK KP h S) (q : po_X9_word S (-1) r S1) : r = V 0 ∧ S1 = S := by
  obtain ⟨w1, w2⟩ := LI_w hI
  exact ⟨by rw [q.1, if_neg (by decide), if_pos rfl]; exact w1, q.2⟩
theorem wrd_k (hI : LI T X V PK B AG TK KP h S) (hk : 0 ≤ k ∧ k < V 0) (q : po_X9_word S k r S1) : r = V (1 + k) ∧ S1 = S := by
  obtain ⟨w1, w2⟩ := LI_w hI
  exact ⟨by rw [q.1, if_neg (by omega), if_neg (by omega), if_pos (by omega)]; exact w2 k hk.1 hk.2, q.2⟩
theorem wrd_e (hI : LI T X V PK B AG TK KP h S) (hk : 0 ≤ k ∧ V 0 ≤ k) (q : po_X9_word S k r S1) : r = -4 ∧ S1 = S := by
  obtain ⟨w1, w2⟩ := LI_w hI
  exact ⟨by rw [q.1, if_neg (by omega), if_neg (by omega), if_neg (by omega)], q.2⟩
theorem nam_3 {i : Int} (hI : LI T X V PK B AG TK KP h S) (hi : 0 ≤ i ∧ i < T 0) (q : po_X9_name S i 3 r S1) : r = PK i ∧ S1 = S := by
  have hs := LI_sz hI
  obtain ⟨a, -, -⟩ | ⟨-, e, e2⟩ := q
  · rcases a with a | a
    · exact absurd ⟨hi.1, by omega⟩ a
    · exact absurd (by decide) a
  · refine ⟨?_, e2⟩
    rcases e with ⟨z, -⟩ | ⟨z, -⟩ | ⟨z, -⟩ | ⟨-, z⟩ | ⟨z, -⟩
    · exact absurd z (by decide)
    · exact absurd z (by decide)
    · exact absurd z (by decide)
    · rw [z]; exact (LI_nm hI hi).2.2.2.1
    · exact absurd z (by decide)
theorem nam_2 {i : Int} (hI : LI T X V PK B AG TK KP h S) (hi : 0 ≤ i ∧ i < T 0) (q : po_X9_name S i 2 r S1) : r = B + i ∧ S1 = S := by
  have hs := LI_sz hI
  obtain ⟨a, -, -⟩ | ⟨-, e, e2⟩ := q
  · rcases a with a | a
    · exact absurd ⟨hi.1, by omega⟩ a
    · exact absurd (by decide) a
  · refine ⟨?_, e2⟩
    rcases e with ⟨z, -⟩ | ⟨z, -⟩ | ⟨-, z⟩ | ⟨z, -⟩ | ⟨z, -⟩
    · exact absurd z (by decide)
    · exact absurd z (by decide)
    · rw [z]; exact (LI_nm hI hi).2.2.1
    · exact absurd z (by decide)
    · exact absurd z (by decide)
theorem ask_0 (h1 : S.1 14 0 = CD V) (h2 : 1 ≤ S.1 63 0) (q : po_X9_asked S 0 r S1) : r = CD V % 100003 ∧ S1 = S := ⟨by rw [q.1, if_neg (by decide), if_pos (by omega), h1], q.2⟩
end WRD
