section LROWS
variable {p : Program} {l : Launch} {e : Env} {R : Room} {s : State} {m : MethodId} {args : Array Value} {below : List Frame} {meth : Method} {c : Code} {H : Heap} {locs : List Loc} {cells slots : Nat} {Q : State → Prop}
variable {cc : ByteArray} {pc nL : Nat} {ls : Array Slot} {rest : List Value} {own : String}
theorem rl_ne (X : CallFix p m c cc nL s args TB own) {a b off : Int} {tgt : Nat} (ha : -9223372036854775808 ≤ a ∧ a < 9223372036854775808) (hb : -9223372036854775808 ≤ b ∧ b < 9223372036854775808) (h1 : decode cc pc = .ok (.lcmp, 1)) (h2 : decode cc (pc + 1) = .ok (.ifCond .ne off, 3)) (ht : ((pc + 1 : Nat) : Int) + off = (tgt : Int)) (kt : ¬ a = b → W p l e R s m args below meth c H locs cells slots Q (F0 m tgt ls rest)) (kf : a = b → W p l e R s m args below meth c H locs cells slots Q (F0 m (pc + 4) ls rest)) : W p l e R s m args below meth c H locs cells slots Q (F0 m pc ls (.long (lI b) :: .long (lI a) :: rest)) := by
  refine W.lcmp X.1 X.2.1 h1 ?_
  have e : lg_cmp (lI a) (lI b) = 0 ↔ a = b := by
    rw [← lI_eq ha hb]
    unfold lg_cmp
    by_cases q1 : lI b < lI a
    · rw [if_pos q1]
      refine ⟨fun h => absurd h (by decide), fun h => ?_⟩
      rw [h] at q1
      exact absurd q1 (by rw [Int64.lt_iff_toInt_lt]; omega)
    · rw [if_neg q1]
      by_cases q2 : lI a = lI b
      · rw [if_pos q2]; exact ⟨fun _ => q2, fun _ => rfl⟩
      · rw [if_neg q2]; exact ⟨fun h => absurd h (by decide), fun h => absurd h q2⟩
  exact lv_if_ne X.1 X.2.1 h2 ht (fun h => kt (fun q => h (e.mpr q))) (fun h => kf (e.mp h))
theorem ri_land (X : CallFix p m c cc nL s args TB own) {a : Int} (ha : 0 ≤ a ∧ a < 9223372036854775808) (hdg : decode cc pc = .ok (.land, 1)) (k : W p l e R s m args below meth c H locs cells slots Q (F0 m (pc + 1) ls (.long (lI (a % 32)) :: rest))) : W p l e R s m args below meth c H locs cells slots Q (F0 m pc ls (.long (lI 31) :: .long (lI a) :: rest)) := by
  refine lv_land X.1 X.2.1 hdg ?_
  obtain ⟨n, rfl⟩ : ∃ n : Nat, a = n := ⟨a.toNat, by omega⟩
  have e : lI (n : Int) &&& lI 31 = lI ((n : Int) % 32) := by
    rw [lI_nat, show (31 : Int) = ((31 : Nat) : Int) from rfl, lI_nat, show ((n : Int) % 32) = ((n % 32 : Nat) : Int) by omega, lI_nat]
    apply Int64.toBitVec_inj.1
    show BitVec.ofNat 64 n &&& BitVec.ofNat 64 31 = BitVec.ofNat 64 (n % 32)
    rw [show (32 : Nat) = 2 ^ 5 from rfl, ← Nat.and_two_pow_sub_one_eq_mod]
    apply BitVec.eq_of_getLsbD_eq
    intro i hi
    simp [hi]
  rw [e]; exact k
end LROWS
