section
-- ===== PART A: goes FIRST, ahead of the names: the tables' words, and 'selects' of the private methods out of them =====
/-- a private method of a class that the tables say can be made, by its rows of tables_1 -/
def lw_okq (q : MethodName × Nat) : Prop := (q.1.cls ≠ "java/lang/invoke/MethodHandle" ∧ q.1.cls ≠ "java/lang/invoke/VarHandle") ∧ Cond.instantiable q.1.cls q.2 ∈ tables_1 ∧ Cond.privateMethod q.1 ∈ tables_1 ∧ Cond.instanceMethod q.1 ∈ tables_1
theorem lw_p0 : lw_okq (⟨"NameSeeker", "layText", "()V"⟩, 14) := ⟨⟨by decide +kernel, by decide +kernel⟩, List.mem_of_getElem? (i := 19) (by decide +kernel), List.mem_of_getElem? (i := 279) (by decide +kernel), List.mem_of_getElem? (i := 280) (by decide +kernel)⟩
theorem lw_p1 : lw_okq (⟨"NameSeeker", "readItem", "(I)V"⟩, 14) := ⟨⟨by decide +kernel, by decide +kernel⟩, List.mem_of_getElem? (i := 19) (by decide +kernel), List.mem_of_getElem? (i := 295) (by decide +kernel), List.mem_of_getElem? (i := 296) (by decide +kernel)⟩
theorem lw_p2 : lw_okq (⟨"NameSeeker$Name", "wouldBegin", "(C)Z"⟩, 7) := ⟨⟨by decide +kernel, by decide +kernel⟩, List.mem_of_getElem? (i := 49) (by decide +kernel), List.mem_of_getElem? (i := 333) (by decide +kernel), List.mem_of_getElem? (i := 334) (by decide +kernel)⟩
theorem lw_p3 : lw_okq (⟨"NameSeeker$Text", "behindName", "(I)I"⟩, 2) := ⟨⟨by decide +kernel, by decide +kernel⟩, List.mem_of_getElem? (i := 27) (by decide +kernel), List.mem_of_getElem? (i := 347) (by decide +kernel), List.mem_of_getElem? (i := 348) (by decide +kernel)⟩
theorem lw_p4 : lw_okq (⟨"NameSeeker$Text", "isFigure", "(II)Z"⟩, 2) := ⟨⟨by decide +kernel, by decide +kernel⟩, List.mem_of_getElem? (i := 27) (by decide +kernel), List.mem_of_getElem? (i := 351) (by decide +kernel), List.mem_of_getElem? (i := 352) (by decide +kernel)⟩
theorem lw_p5 : lw_okq (⟨"NameSeeker$Text", "behindWorths", "(I)I"⟩, 2) := ⟨⟨by decide +kernel, by decide +kernel⟩, List.mem_of_getElem? (i := 27) (by decide +kernel), List.mem_of_getElem? (i := 357) (by decide +kernel), List.mem_of_getElem? (i := 358) (by decide +kernel)⟩
theorem lw_p6 : lw_okq (⟨"NameSeeker", "seekScore", "(LNameSeeker$Name;)I"⟩, 14) := ⟨⟨by decide +kernel, by decide +kernel⟩, List.mem_of_getElem? (i := 19) (by decide +kernel), List.mem_of_getElem? (i := 510) (by decide +kernel), List.mem_of_getElem? (i := 511) (by decide +kernel)⟩
theorem lw_p7 : lw_okq (⟨"NameSeeker$Laying", "workOutLetter", "(LNameSeeker$Name;LNameSeeker$Word;ILNameSeeker$Scales;)V"⟩, 4) := ⟨⟨by decide +kernel, by decide +kernel⟩, List.mem_of_getElem? (i := 141) (by decide +kernel), List.mem_of_getElem? (i := 534) (by decide +kernel), List.mem_of_getElem? (i := 535) (by decide +kernel)⟩
theorem lw_p8 : lw_okq (⟨"NameSeeker$Laying", "workOutNext", "(LNameSeeker$Name;IILNameSeeker$Scales;)V"⟩, 4) := ⟨⟨by decide +kernel, by decide +kernel⟩, List.mem_of_getElem? (i := 141) (by decide +kernel), List.mem_of_getElem? (i := 546) (by decide +kernel), List.mem_of_getElem? (i := 547) (by decide +kernel)⟩
theorem lw_p9 : lw_okq (⟨"NameSeeker", "seekScores", "()V"⟩, 14) := ⟨⟨by decide +kernel, by decide +kernel⟩, List.mem_of_getElem? (i := 19) (by decide +kernel), List.mem_of_getElem? (i := 562) (by decide +kernel), List.mem_of_getElem? (i := 563) (by decide +kernel)⟩
theorem lw_p10 : lw_okq (⟨"NameSeeker$Ranking", "insert", "(LNameSeeker$Lot;I)V"⟩, 3) := ⟨⟨by decide +kernel, by decide +kernel⟩, List.mem_of_getElem? (i := 207) (by decide +kernel), List.mem_of_getElem? (i := 578) (by decide +kernel), List.mem_of_getElem? (i := 579) (by decide +kernel)⟩
theorem lw_p11 : lw_okq (⟨"NameSeeker$Ranking", "isAhead", "(LNameSeeker$Lot;II)Z"⟩, 3) := ⟨⟨by decide +kernel, by decide +kernel⟩, List.mem_of_getElem? (i := 207) (by decide +kernel), List.mem_of_getElem? (i := 582) (by decide +kernel), List.mem_of_getElem? (i := 583) (by decide +kernel)⟩
theorem lw_p12 : lw_okq (⟨"NameSeeker", "isFirstBy", "(III)Z"⟩, 14) := ⟨⟨by decide +kernel, by decide +kernel⟩, List.mem_of_getElem? (i := 19) (by decide +kernel), List.mem_of_getElem? (i := 622) (by decide +kernel), List.mem_of_getElem? (i := 623) (by decide +kernel)⟩
theorem lw_p13 : lw_okq (⟨"NameSeekerModel", "reads", "()I"⟩, 41) := ⟨⟨by decide +kernel, by decide +kernel⟩, List.mem_of_getElem? (i := 656) (by decide +kernel), List.mem_of_getElem? (i := 798) (by decide +kernel), List.mem_of_getElem? (i := 799) (by decide +kernel)⟩
theorem lw_p14 : lw_okq (⟨"NameSeekerModel", "readsName", "(I)I"⟩, 41) := ⟨⟨by decide +kernel, by decide +kernel⟩, List.mem_of_getElem? (i := 656) (by decide +kernel), List.mem_of_getElem? (i := 802) (by decide +kernel), List.mem_of_getElem? (i := 803) (by decide +kernel)⟩
theorem lw_p15 : lw_okq (⟨"NameSeekerModel", "isFigure", "(II)Z"⟩, 41) := ⟨⟨by decide +kernel, by decide +kernel⟩, List.mem_of_getElem? (i := 656) (by decide +kernel), List.mem_of_getElem? (i := 806) (by decide +kernel), List.mem_of_getElem? (i := 807) (by decide +kernel)⟩
def lw_privs_1 : List (MethodName × Nat) := [(⟨"NameSeeker", "layText", "()V"⟩, 14), (⟨"NameSeeker", "readItem", "(I)V"⟩, 14), (⟨"NameSeeker$Name", "wouldBegin", "(C)Z"⟩, 7), (⟨"NameSeeker$Text", "behindName", "(I)I"⟩, 2), (⟨"NameSeeker$Text", "isFigure", "(II)Z"⟩, 2), (⟨"NameSeeker$Text", "behindWorths", "(I)I"⟩, 2), (⟨"NameSeeker", "seekScore", "(LNameSeeker$Name;)I"⟩, 14), (⟨"NameSeeker$Laying", "workOutLetter", "(LNameSeeker$Name;LNameSeeker$Word;ILNameSeeker$Scales;)V"⟩, 4), (⟨"NameSeeker$Laying", "workOutNext", "(LNameSeeker$Name;IILNameSeeker$Scales;)V"⟩, 4), (⟨"NameSeeker", "seekScores", "()V"⟩, 14), (⟨"NameSeeker$Ranking", "insert", "(LNameSeeker$Lot;I)V"⟩, 3), (⟨"NameSeeker$Ranking", "isAhead", "(LNameSeeker$Lot;II)Z"⟩, 3), (⟨"NameSeeker", "isFirstBy", "(III)Z"⟩, 14), (⟨"NameSeekerModel", "reads", "()I"⟩, 41), (⟨"NameSeekerModel", "readsName", "(I)I"⟩, 41), (⟨"NameSeekerModel", "isFigure", "(II)Z"⟩, 41)]
theorem lw_r1 : ∀ q ∈ lw_privs_1, lw_okq q := List.forall_mem_cons.mpr ⟨lw_p0, List.forall_mem_cons.mpr ⟨lw_p1, List.forall_mem_cons.mpr ⟨lw_p2, List.forall_mem_cons.mpr ⟨lw_p3, List.forall_mem_cons.mpr ⟨lw_p4, List.forall_mem_cons.mpr ⟨lw_p5, List.forall_mem_cons.mpr ⟨lw_p6, List.forall_mem_cons.mpr ⟨lw_p7, List.forall_mem_cons.mpr ⟨lw_p8, List.forall_mem_cons.mpr ⟨lw_p9, List.forall_mem_cons.mpr ⟨lw_p10, List.forall_mem_cons.mpr ⟨lw_p11, List.forall_mem_cons.mpr ⟨lw_p12, List.forall_mem_cons.mpr ⟨lw_p13, List.forall_mem_cons.mpr ⟨lw_p14, List.forall_mem_cons.mpr ⟨lw_p15, fun _ h => absurd h List.not_mem_nil⟩⟩⟩⟩⟩⟩⟩⟩⟩⟩⟩⟩⟩⟩⟩⟩
theorem lw_p16 : lw_okq (⟨"NameSeekerModel", "letterAt", "(I)I"⟩, 41) := ⟨⟨by decide +kernel, by decide +kernel⟩, List.mem_of_getElem? (i := 656) (by decide +kernel), List.mem_of_getElem? (i := 810) (by decide +kernel), List.mem_of_getElem? (i := 811) (by decide +kernel)⟩
theorem lw_p17 : lw_okq (⟨"NameSeekerModel", "readsWorths", "(I)I"⟩, 41) := ⟨⟨by decide +kernel, by decide +kernel⟩, List.mem_of_getElem? (i := 656) (by decide +kernel), List.mem_of_getElem? (i := 823) (by decide +kernel), List.mem_of_getElem? (i := 824) (by decide +kernel)⟩
theorem lw_p18 : lw_okq (⟨"NameSeekerModel", "isName", "(I)Z"⟩, 41) := ⟨⟨by decide +kernel, by decide +kernel⟩, List.mem_of_getElem? (i := 656) (by decide +kernel), List.mem_of_getElem? (i := 835) (by decide +kernel), List.mem_of_getElem? (i := 836) (by decide +kernel)⟩
theorem lw_p19 : lw_okq (⟨"NameSeekerModel", "isBeginning", "(II)Z"⟩, 41) := ⟨⟨by decide +kernel, by decide +kernel⟩, List.mem_of_getElem? (i := 656) (by decide +kernel), List.mem_of_getElem? (i := 839) (by decide +kernel), List.mem_of_getElem? (i := 840) (by decide +kernel)⟩
theorem lw_p20 : lw_okq (⟨"NameSeekerModel", "sought", "(I)I"⟩, 41) := ⟨⟨by decide +kernel, by decide +kernel⟩, List.mem_of_getElem? (i := 656) (by decide +kernel), List.mem_of_getElem? (i := 888) (by decide +kernel), List.mem_of_getElem? (i := 889) (by decide +kernel)⟩
theorem lw_p21 : lw_okq (⟨"NameSeekerModel", "code", "()J"⟩, 41) := ⟨⟨by decide +kernel, by decide +kernel⟩, List.mem_of_getElem? (i := 656) (by decide +kernel), List.mem_of_getElem? (i := 892) (by decide +kernel), List.mem_of_getElem? (i := 893) (by decide +kernel)⟩
theorem lw_p22 : lw_okq (⟨"NameSeekerModel", "triesWord", "()V"⟩, 41) := ⟨⟨by decide +kernel, by decide +kernel⟩, List.mem_of_getElem? (i := 656) (by decide +kernel), List.mem_of_getElem? (i := 900) (by decide +kernel), List.mem_of_getElem? (i := 901) (by decide +kernel)⟩
theorem lw_p23 : lw_okq (⟨"NameSeekerModel", "waysOf", "(I)I"⟩, 41) := ⟨⟨by decide +kernel, by decide +kernel⟩, List.mem_of_getElem? (i := 656) (by decide +kernel), List.mem_of_getElem? (i := 904) (by decide +kernel), List.mem_of_getElem? (i := 905) (by decide +kernel)⟩
theorem lw_p24 : lw_okq (⟨"NameSeekerModel", "isWay", "(I)Z"⟩, 41) := ⟨⟨by decide +kernel, by decide +kernel⟩, List.mem_of_getElem? (i := 656) (by decide +kernel), List.mem_of_getElem? (i := 908) (by decide +kernel), List.mem_of_getElem? (i := 909) (by decide +kernel)⟩
theorem lw_p25 : lw_okq (⟨"NameSeekerModel", "isAlike", "(III)Z"⟩, 41) := ⟨⟨by decide +kernel, by decide +kernel⟩, List.mem_of_getElem? (i := 656) (by decide +kernel), List.mem_of_getElem? (i := 912) (by decide +kernel), List.mem_of_getElem? (i := 913) (by decide +kernel)⟩
theorem lw_p26 : lw_okq (⟨"NameSeekerModel", "worthOfWay", "(I)I"⟩, 41) := ⟨⟨by decide +kernel, by decide +kernel⟩, List.mem_of_getElem? (i := 656) (by decide +kernel), List.mem_of_getElem? (i := 919) (by decide +kernel), List.mem_of_getElem? (i := 920) (by decide +kernel)⟩
theorem lw_p27 : lw_okq (⟨"NameSeekerModel", "goesOn", "(I)Z"⟩, 41) := ⟨⟨by decide +kernel, by decide +kernel⟩, List.mem_of_getElem? (i := 656) (by decide +kernel), List.mem_of_getElem? (i := 923) (by decide +kernel), List.mem_of_getElem? (i := 924) (by decide +kernel)⟩
theorem lw_p28 : lw_okq (⟨"NameSeekerModel", "passing", "(I)Z"⟩, 41) := ⟨⟨by decide +kernel, by decide +kernel⟩, List.mem_of_getElem? (i := 656) (by decide +kernel), List.mem_of_getElem? (i := 931) (by decide +kernel), List.mem_of_getElem? (i := 932) (by decide +kernel)⟩
theorem lw_p29 : lw_okq (⟨"NameSeekerModel", "has", "(II)Z"⟩, 41) := ⟨⟨by decide +kernel, by decide +kernel⟩, List.mem_of_getElem? (i := 656) (by decide +kernel), List.mem_of_getElem? (i := 935) (by decide +kernel), List.mem_of_getElem? (i := 936) (by decide +kernel)⟩
theorem lw_p30 : lw_okq (⟨"NameSeekerModel", "aheadOf", "(I)I"⟩, 41) := ⟨⟨by decide +kernel, by decide +kernel⟩, List.mem_of_getElem? (i := 656) (by decide +kernel), List.mem_of_getElem? (i := 939) (by decide +kernel), List.mem_of_getElem? (i := 940) (by decide +kernel)⟩
theorem lw_p31 : lw_okq (⟨"NameSeekerModel", "isAhead", "(II)Z"⟩, 41) := ⟨⟨by decide +kernel, by decide +kernel⟩, List.mem_of_getElem? (i := 656) (by decide +kernel), List.mem_of_getElem? (i := 943) (by decide +kernel), List.mem_of_getElem? (i := 944) (by decide +kernel)⟩
def lw_privs_2 : List (MethodName × Nat) := [(⟨"NameSeekerModel", "letterAt", "(I)I"⟩, 41), (⟨"NameSeekerModel", "readsWorths", "(I)I"⟩, 41), (⟨"NameSeekerModel", "isName", "(I)Z"⟩, 41), (⟨"NameSeekerModel", "isBeginning", "(II)Z"⟩, 41), (⟨"NameSeekerModel", "sought", "(I)I"⟩, 41), (⟨"NameSeekerModel", "code", "()J"⟩, 41), (⟨"NameSeekerModel", "triesWord", "()V"⟩, 41), (⟨"NameSeekerModel", "waysOf", "(I)I"⟩, 41), (⟨"NameSeekerModel", "isWay", "(I)Z"⟩, 41), (⟨"NameSeekerModel", "isAlike", "(III)Z"⟩, 41), (⟨"NameSeekerModel", "worthOfWay", "(I)I"⟩, 41), (⟨"NameSeekerModel", "goesOn", "(I)Z"⟩, 41), (⟨"NameSeekerModel", "passing", "(I)Z"⟩, 41), (⟨"NameSeekerModel", "has", "(II)Z"⟩, 41), (⟨"NameSeekerModel", "aheadOf", "(I)I"⟩, 41), (⟨"NameSeekerModel", "isAhead", "(II)Z"⟩, 41)]
theorem lw_r2 : ∀ q ∈ lw_privs_2, lw_okq q := List.forall_mem_cons.mpr ⟨lw_p16, List.forall_mem_cons.mpr ⟨lw_p17, List.forall_mem_cons.mpr ⟨lw_p18, List.forall_mem_cons.mpr ⟨lw_p19, List.forall_mem_cons.mpr ⟨lw_p20, List.forall_mem_cons.mpr ⟨lw_p21, List.forall_mem_cons.mpr ⟨lw_p22, List.forall_mem_cons.mpr ⟨lw_p23, List.forall_mem_cons.mpr ⟨lw_p24, List.forall_mem_cons.mpr ⟨lw_p25, List.forall_mem_cons.mpr ⟨lw_p26, List.forall_mem_cons.mpr ⟨lw_p27, List.forall_mem_cons.mpr ⟨lw_p28, List.forall_mem_cons.mpr ⟨lw_p29, List.forall_mem_cons.mpr ⟨lw_p30, List.forall_mem_cons.mpr ⟨lw_p31, fun _ h => absurd h List.not_mem_nil⟩⟩⟩⟩⟩⟩⟩⟩⟩⟩⟩⟩⟩⟩⟩⟩
theorem lw_p32 : lw_okq (⟨"NameSeekerModel", "isFirst", "(I)Z"⟩, 41) := ⟨⟨by decide +kernel, by decide +kernel⟩, List.mem_of_getElem? (i := 656) (by decide +kernel), List.mem_of_getElem? (i := 968) (by decide +kernel), List.mem_of_getElem? (i := 969) (by decide +kernel)⟩
def lw_privs_3 : List (MethodName × Nat) := [(⟨"NameSeekerModel", "isFirst", "(I)Z"⟩, 41)]
theorem lw_r3 : ∀ q ∈ lw_privs_3, lw_okq q := List.forall_mem_cons.mpr ⟨lw_p32, fun _ h => absurd h List.not_mem_nil⟩
def lw_privs : List (MethodName × Nat) := lw_privs_1 ++ (lw_privs_2 ++ (lw_privs_3))
def lw_tbl : List Cond := k2_sels lw_privs ++ tables_1
theorem lw_privs_ok : ∀ q ∈ lw_privs, lw_okq q := by
  show ∀ q ∈ lw_privs_1 ++ (lw_privs_2 ++ (lw_privs_3)), lw_okq q
  exact List.forall_mem_append.mpr ⟨lw_r1, List.forall_mem_append.mpr ⟨lw_r2, lw_r3⟩⟩
end
section
/-! ===== BEGIN words of one list among another's, by their places ===== -/
theorem goodIn_r {big : List Cond} (ws : List Cond) (ps : List Nat) (hp : ws = ps.filterMap (fun i => big[i]?)) (h : ws.all goodWord = true) : GoodIn big ws := by
  intro w hw
  have h1 := List.all_eq_true.mp h w hw
  rw [hp] at hw
  obtain ⟨i, -, hi⟩ := List.mem_filterMap.mp hw
  have hm : w ∈ big := by first | exact List.mem_of_getElem? hi | exact List.getElem?_mem hi
  exact ⟨hm, good_of_word h1⟩
theorem goodIn_app {big a b : List Cond} (ha : GoodIn big a) (hb : GoodIn big b) : GoodIn big (a ++ b) := fun w h => (List.mem_append.mp h).elim (ha w) (hb w)
theorem goodIn_ca {big a b : List Cond} {c : Cond} (ha : GoodIn big (c :: a)) (hb : GoodIn big b) : GoodIn big (c :: (a ++ b)) := fun w h => (List.mem_cons.mp h).elim (fun e => ha w (List.mem_cons.mpr (Or.inl e))) (fun h => (List.mem_append.mp h).elim (fun h => ha w (List.mem_cons.mpr (Or.inr h))) (hb w))
theorem goodIn_sub {big ws : List Cond} (hm : ∀ w ∈ ws, w ∈ big) (h : ws.all goodWord = true) : GoodIn big ws := fun w hw => ⟨hm w hw, good_of_word (List.all_eq_true.mp h w hw)⟩
/-! ===== END ===== -/

def RX0 : String := "NameSeeker$Asked"
def TX0 : u_T := fun k => match k with
  | 0 => ("NameSeeker$Asked", "codes", "[J", true)
  | _ => ("NameSeeker$Asked", "size", "I", false)
def tyX0 : Nat → FieldType := fun k => match k with
  | 0 => .array .long
  | _ => .int
abbrev wsX00 : List Cond := u_ws RX0 TX0 2
theorem nmX0 : ∀ a, a < 2 → ∀ b, b < 2 → a ≠ b → (TX0 a).2.1 ≠ (TX0 b).2.1 := by decide +kernel
theorem tyX0_ok : ∀ k, k < 2 → parseFieldDescriptor (TX0 k).2.2.1 = some (tyX0 k) := by decide +kernel
abbrev cX0_init : ByteArray := prog_2_method_1_code
def yX0_init : MethodName := ⟨RX0, "<init>", "()V"⟩
abbrev cX0_add : ByteArray := prog_2_method_2_code
def yX0_add : MethodName := ⟨RX0, "add", "(J)V"⟩
def RX1 : String := "NameSeeker$Known"
def TX1 : u_T := fun k => match k with
  | 0 => ("NameSeeker$Known", "ids", "[I", true)
  | 1 => ("NameSeeker$Known", "codes", "[J", true)
  | 2 => ("NameSeeker$Known", "ages", "[I", true)
  | 3 => ("NameSeeker$Known", "scores", "[I", true)
  | 4 => ("NameSeeker$Known", "hits", "I", false)
  | _ => ("NameSeeker$Known", "misses", "I", false)
def tyX1 : Nat → FieldType := fun k => match k with
  | 0 => .array .int
  | 1 => .array .long
  | 2 => .array .int
  | 3 => .array .int
  | 4 => .int
  | _ => .int
abbrev wsX10 : List Cond := u_ws RX1 TX1 6
theorem nmX1 : ∀ a, a < 6 → ∀ b, b < 6 → a ≠ b → (TX1 a).2.1 ≠ (TX1 b).2.1 := by decide +kernel
theorem tyX1_ok : ∀ k, k < 6 → parseFieldDescriptor (TX1 k).2.2.1 = some (tyX1 k) := by decide +kernel
abbrev cX1_init : ByteArray := prog_3_method_1_code
def yX1_init : MethodName := ⟨RX1, "<init>", "()V"⟩
abbrev cX1_placeOf : ByteArray := prog_3_method_2_code
def yX1_placeOf : MethodName := ⟨RX1, "placeOf", "(IJI)I"⟩
abbrev cX1_holds : ByteArray := prog_3_method_3_code
def yX1_holds : MethodName := ⟨RX1, "holds", "(IIJI)Z"⟩
abbrev cX1_put : ByteArray := prog_3_method_4_code
def yX1_put : MethodName := ⟨RX1, "put", "(IIJII)V"⟩
def RX2 : String := "NameSeeker$Laying"
def TX2 : u_T := fun k => match k with
  | 0 => ("NameSeeker$Laying", "tails", "[[I", true)
  | 1 => ("NameSeeker$Laying", "nexts", "[[I", true)
  | 2 => ("NameSeeker$Laying", "counts", "[I", true)
  | _ => ("NameSeeker$Laying", "bestFirst", "I", false)
def tyX2 : Nat → FieldType := fun k => match k with
  | 0 => .array (.array .int)
  | 1 => .array (.array .int)
  | 2 => .array .int
  | _ => .int
abbrev wsX20 : List Cond := u_ws RX2 TX2 4
theorem nmX2 : ∀ a, a < 4 → ∀ b, b < 4 → a ≠ b → (TX2 a).2.1 ≠ (TX2 b).2.1 := by decide +kernel
theorem tyX2_ok : ∀ k, k < 4 → parseFieldDescriptor (TX2 k).2.2.1 = some (tyX2 k) := by decide +kernel
abbrev cX2_init : ByteArray := prog_4_method_1_code
def yX2_init : MethodName := ⟨RX2, "<init>", "()V"⟩
abbrev cX2_workOut : ByteArray := prog_4_method_2_code
def yX2_workOut : MethodName := ⟨RX2, "workOut", "(LNameSeeker$Name;LNameSeeker$Word;LNameSeeker$Scales;)I"⟩
abbrev cX2_workOutLetter : ByteArray := prog_4_method_3_code
def yX2_workOutLetter : MethodName := ⟨RX2, "workOutLetter", "(LNameSeeker$Name;LNameSeeker$Word;ILNameSeeker$Scales;)V"⟩
abbrev cX2_workOutNext : ByteArray := prog_4_method_4_code
def yX2_workOutNext : MethodName := ⟨RX2, "workOutNext", "(LNameSeeker$Name;IILNameSeeker$Scales;)V"⟩
abbrev cX2_bestPlace : ByteArray := prog_4_method_5_code
def yX2_bestPlace : MethodName := ⟨RX2, "bestPlace", "(I)I"⟩
abbrev cX2_countWays : ByteArray := prog_4_method_6_code
def yX2_countWays : MethodName := ⟨RX2, "countWays", "(LNameSeeker$Name;LNameSeeker$Word;)I"⟩
def RX3 : String := "NameSeeker$Lot"
def TX3 : u_T := fun k => match k with
  | 0 => ("NameSeeker$Lot", "names", "[LNameSeeker$Name;", true)
  | 1 => ("NameSeeker$Lot", "size", "I", false)
  | _ => ("NameSeeker$Lot", "laid", "I", false)
def tyX3 : Nat → FieldType := fun k => match k with
  | 0 => .array (.object "NameSeeker$Name")
  | 1 => .int
  | _ => .int
abbrev wsX30 : List Cond := u_ws RX3 TX3 3
theorem nmX3 : ∀ a, a < 3 → ∀ b, b < 3 → a ≠ b → (TX3 a).2.1 ≠ (TX3 b).2.1 := by decide +kernel
theorem tyX3_ok : ∀ k, k < 3 → parseFieldDescriptor (TX3 k).2.2.1 = some (tyX3 k) := by decide +kernel
abbrev cX3_init : ByteArray := prog_5_method_1_code
def yX3_init : MethodName := ⟨RX3, "<init>", "()V"⟩
abbrev cX3_has : ByteArray := prog_5_method_2_code
def yX3_has : MethodName := ⟨RX3, "has", "(I)Z"⟩
abbrev cX3_clear : ByteArray := prog_5_method_3_code
def yX3_clear : MethodName := ⟨RX3, "clear", "()V"⟩
abbrev cX3_addName : ByteArray := prog_5_method_4_code
def yX3_addName : MethodName := ⟨RX3, "addName", "(I)LNameSeeker$Name;"⟩
abbrev cX3_remove : ByteArray := prog_5_method_5_code
def yX3_remove : MethodName := ⟨RX3, "remove", "(I)V"⟩
def RX4 : String := "NameSeeker$Name"
def TX4 : u_T := fun k => match k with
  | 0 => ("NameSeeker$Name", "signs", "[C", true)
  | 1 => ("NameSeeker$Name", "size", "I", false)
  | 2 => ("NameSeeker$Name", "kind", "I", false)
  | 3 => ("NameSeeker$Name", "id", "I", false)
  | 4 => ("NameSeeker$Name", "picked", "I", false)
  | 5 => ("NameSeeker$Name", "beginnings", "I", false)
  | _ => ("NameSeeker$Name", "letterBits", "I", false)
def tyX4 : Nat → FieldType := fun k => match k with
  | 0 => .array .char
  | 1 => .int
  | 2 => .int
  | 3 => .int
  | 4 => .int
  | 5 => .int
  | _ => .int
abbrev wsX40 : List Cond := u_ws RX4 TX4 7
theorem nmX4 : ∀ a, a < 7 → ∀ b, b < 7 → a ≠ b → (TX4 a).2.1 ≠ (TX4 b).2.1 := by decide +kernel
theorem tyX4_ok : ∀ k, k < 7 → parseFieldDescriptor (TX4 k).2.2.1 = some (tyX4 k) := by decide +kernel
abbrev cX4_init : ByteArray := prog_6_method_1_code
def yX4_init : MethodName := ⟨RX4, "<init>", "()V"⟩
abbrev cX4_reset : ByteArray := prog_6_method_2_code
def yX4_reset : MethodName := ⟨RX4, "reset", "(II)V"⟩
abbrev cX4_addSign : ByteArray := prog_6_method_3_code
def yX4_addSign : MethodName := ⟨RX4, "addSign", "(C)V"⟩
abbrev cX4_wouldBegin : ByteArray := prog_6_method_4_code
def yX4_wouldBegin : MethodName := ⟨RX4, "wouldBegin", "(C)Z"⟩
abbrev cX4_isAlike : ByteArray := prog_6_method_5_code
def yX4_isAlike : MethodName := ⟨RX4, "isAlike", "(IC)Z"⟩
abbrev cX4_hasAll : ByteArray := prog_6_method_6_code
def yX4_hasAll : MethodName := ⟨RX4, "hasAll", "(LNameSeeker$Word;)Z"⟩
def RX5 : String := "NameSeeker$Ranking"
def TX5 : u_T := fun k => match k with
  | 0 => ("NameSeeker$Ranking", "scores", "[I", true)
  | 1 => ("NameSeeker$Ranking", "numbers", "[I", true)
  | _ => ("NameSeeker$Ranking", "size", "I", false)
def tyX5 : Nat → FieldType := fun k => match k with
  | 0 => .array .int
  | 1 => .array .int
  | _ => .int
abbrev wsX50 : List Cond := u_ws RX5 TX5 3
theorem nmX5 : ∀ a, a < 3 → ∀ b, b < 3 → a ≠ b → (TX5 a).2.1 ≠ (TX5 b).2.1 := by decide +kernel
theorem tyX5_ok : ∀ k, k < 3 → parseFieldDescriptor (TX5 k).2.2.1 = some (tyX5 k) := by decide +kernel
abbrev cX5_init : ByteArray := prog_7_method_1_code
def yX5_init : MethodName := ⟨RX5, "<init>", "()V"⟩
abbrev cX5_rank : ByteArray := prog_7_method_2_code
def yX5_rank : MethodName := ⟨RX5, "rank", "(LNameSeeker$Lot;)V"⟩
abbrev cX5_insert : ByteArray := prog_7_method_3_code
def yX5_insert : MethodName := ⟨RX5, "insert", "(LNameSeeker$Lot;I)V"⟩
abbrev cX5_isFirst : ByteArray := prog_7_method_4_code
def yX5_isFirst : MethodName := ⟨RX5, "isFirst", "(LNameSeeker$Lot;I)Z"⟩
abbrev cX5_isAhead : ByteArray := prog_7_method_5_code
def yX5_isAhead : MethodName := ⟨RX5, "isAhead", "(LNameSeeker$Lot;II)Z"⟩
def RX6 : String := "NameSeeker$Scales"
def TX6 : u_T := fun k => match k with
  | 0 => ("NameSeeker$Scales", "beginning", "I", false)
  | 1 => ("NameSeeker$Scales", "row", "I", false)
  | _ => ("NameSeeker$Scales", "gap", "I", false)
def tyX6 : Nat → FieldType := fun k => match k with
  | 0 => .int
  | 1 => .int
  | _ => .int
abbrev wsX60 : List Cond := u_ws RX6 TX6 3
theorem nmX6 : ∀ a, a < 3 → ∀ b, b < 3 → a ≠ b → (TX6 a).2.1 ≠ (TX6 b).2.1 := by decide +kernel
theorem tyX6_ok : ∀ k, k < 3 → parseFieldDescriptor (TX6 k).2.2.1 = some (tyX6 k) := by decide +kernel
abbrev cX6_init : ByteArray := prog_8_method_1_code
def yX6_init : MethodName := ⟨RX6, "<init>", "()V"⟩
abbrev cX6_mayBe : ByteArray := prog_8_method_2_code
def yX6_mayBe : MethodName := ⟨RX6, "mayBe", "(I)Z"⟩
abbrev cX6_setDefaults : ByteArray := prog_8_method_3_code
def yX6_setDefaults : MethodName := ⟨RX6, "setDefaults", "()V"⟩
abbrev cX6_set : ByteArray := prog_8_method_4_code
def yX6_set : MethodName := ⟨RX6, "set", "(III)V"⟩
abbrev cX6_are : ByteArray := prog_8_method_5_code
def yX6_are : MethodName := ⟨RX6, "are", "(III)Z"⟩
abbrev cX6_ofPlace : ByteArray := prog_8_method_6_code
def yX6_ofPlace : MethodName := ⟨RX6, "ofPlace", "(LNameSeeker$Name;I)I"⟩
abbrev cX6_ofStep : ByteArray := prog_8_method_7_code
def yX6_ofStep : MethodName := ⟨RX6, "ofStep", "(LNameSeeker$Name;II)I"⟩
def RX7 : String := "NameSeeker$Text"
def TX7 : u_T := fun k => match k with
  | 0 => ("NameSeeker$Text", "letters", "[C", true)
  | _ => ("NameSeeker$Text", "size", "I", false)
def tyX7 : Nat → FieldType := fun k => match k with
  | 0 => .array .char
  | _ => .int
abbrev wsX70 : List Cond := u_ws RX7 TX7 2
theorem nmX7 : ∀ a, a < 2 → ∀ b, b < 2 → a ≠ b → (TX7 a).2.1 ≠ (TX7 b).2.1 := by decide +kernel
theorem tyX7_ok : ∀ k, k < 2 → parseFieldDescriptor (TX7 k).2.2.1 = some (tyX7 k) := by decide +kernel
abbrev cX7_init : ByteArray := prog_9_method_1_code
def yX7_init : MethodName := ⟨RX7, "<init>", "()V"⟩
abbrev cX7_append : ByteArray := prog_9_method_2_code
def yX7_append : MethodName := ⟨RX7, "append", "(C)V"⟩
abbrev cX7_clear : ByteArray := prog_9_method_3_code
def yX7_clear : MethodName := ⟨RX7, "clear", "()I"⟩
abbrev cX7_at : ByteArray := prog_9_method_4_code
def yX7_at : MethodName := ⟨RX7, "at", "(I)C"⟩
abbrev cX7_figureAt : ByteArray := prog_9_method_5_code
def yX7_figureAt : MethodName := ⟨RX7, "figureAt", "(I)I"⟩
abbrev cX7_firstFault : ByteArray := prog_9_method_6_code
def yX7_firstFault : MethodName := ⟨RX7, "firstFault", "()I"⟩
abbrev cX7_hasName : ByteArray := prog_9_method_7_code
def yX7_hasName : MethodName := ⟨RX7, "hasName", "()Z"⟩
abbrev cX7_behindItem : ByteArray := prog_9_method_8_code
def yX7_behindItem : MethodName := ⟨RX7, "behindItem", "(I)I"⟩
abbrev cX7_behindName : ByteArray := prog_9_method_9_code
def yX7_behindName : MethodName := ⟨RX7, "behindName", "(I)I"⟩
abbrev cX7_behindWorths : ByteArray := prog_9_method_10_code
def yX7_behindWorths : MethodName := ⟨RX7, "behindWorths", "(I)I"⟩
abbrev cX7_isFigure : ByteArray := prog_9_method_11_code
def yX7_isFigure : MethodName := ⟨RX7, "isFigure", "(II)Z"⟩
def RX8 : String := "NameSeeker$Word"
def TX8 : u_T := fun k => match k with
  | 0 => ("NameSeeker$Word", "letters", "[C", true)
  | _ => ("NameSeeker$Word", "size", "I", false)
def tyX8 : Nat → FieldType := fun k => match k with
  | 0 => .array .char
  | _ => .int
abbrev wsX80 : List Cond := u_ws RX8 TX8 2
theorem nmX8 : ∀ a, a < 2 → ∀ b, b < 2 → a ≠ b → (TX8 a).2.1 ≠ (TX8 b).2.1 := by decide +kernel
theorem tyX8_ok : ∀ k, k < 2 → parseFieldDescriptor (TX8 k).2.2.1 = some (tyX8 k) := by decide +kernel
abbrev cX8_init : ByteArray := prog_10_method_1_code
def yX8_init : MethodName := ⟨RX8, "<init>", "()V"⟩
abbrev cX8_clear : ByteArray := prog_10_method_2_code
def yX8_clear : MethodName := ⟨RX8, "clear", "()V"⟩
abbrev cX8_add : ByteArray := prog_10_method_3_code
def yX8_add : MethodName := ⟨RX8, "add", "(C)V"⟩
abbrev cX8_removeLast : ByteArray := prog_10_method_4_code
def yX8_removeLast : MethodName := ⟨RX8, "removeLast", "()I"⟩
abbrev cX8_copy : ByteArray := prog_10_method_5_code
def yX8_copy : MethodName := ⟨RX8, "copy", "(LNameSeeker$Word;)V"⟩
abbrev cX8_code : ByteArray := prog_10_method_6_code
def yX8_code : MethodName := ⟨RX8, "code", "()J"⟩
abbrev cX8_letterBits : ByteArray := prog_10_method_7_code
def yX8_letterBits : MethodName := ⟨RX8, "letterBits", "()I"⟩
def RX9 : String := "NameSeeker"
def TX9 : u_T := fun k => match k with
  | 0 => ("NameSeeker", "text", "LNameSeeker$Text;", true)
  | 1 => ("NameSeeker", "lot", "LNameSeeker$Lot;", true)
  | 2 => ("NameSeeker", "scales", "LNameSeeker$Scales;", true)
  | 3 => ("NameSeeker", "typed", "LNameSeeker$Word;", true)
  | 4 => ("NameSeeker", "tried", "LNameSeeker$Word;", true)
  | 5 => ("NameSeeker", "kept", "[LNameSeeker$Word;", true)
  | 6 => ("NameSeeker", "laying", "LNameSeeker$Laying;", true)
  | 7 => ("NameSeeker", "known", "LNameSeeker$Known;", true)
  | 8 => ("NameSeeker", "askedCodes", "LNameSeeker$Asked;", true)
  | 9 => ("NameSeeker", "ranking", "LNameSeeker$Ranking;", true)
  | 10 => ("NameSeeker", "keptSize", "I", false)
  | 11 => ("NameSeeker", "tick", "I", false)
  | 12 => ("NameSeeker", "age", "I", false)
  | _ => ("NameSeeker", "seed", "I", false)
def tyX9 : Nat → FieldType := fun k => match k with
  | 0 => .object "NameSeeker$Text"
  | 1 => .object "NameSeeker$Lot"
  | 2 => .object "NameSeeker$Scales"
  | 3 => .object "NameSeeker$Word"
  | 4 => .object "NameSeeker$Word"
  | 5 => .array (.object "NameSeeker$Word")
  | 6 => .object "NameSeeker$Laying"
  | 7 => .object "NameSeeker$Known"
  | 8 => .object "NameSeeker$Asked"
  | 9 => .object "NameSeeker$Ranking"
  | 10 => .int
  | 11 => .int
  | 12 => .int
  | _ => .int
abbrev wsX90 : List Cond := u_ws RX9 TX9 14
theorem nmX9 : ∀ a, a < 14 → ∀ b, b < 14 → a ≠ b → (TX9 a).2.1 ≠ (TX9 b).2.1 := by decide +kernel
theorem tyX9_ok : ∀ k, k < 14 → parseFieldDescriptor (TX9 k).2.2.1 = some (tyX9 k) := by decide +kernel
abbrev cX9_init : ByteArray := prog_1_method_1_code
def yX9_init : MethodName := ⟨RX9, "<init>", "()V"⟩
abbrev cX9_write : ByteArray := prog_1_method_2_code
def yX9_write : MethodName := ⟨RX9, "write", "(I)I"⟩
abbrev cX9_wipe : ByteArray := prog_1_method_3_code
def yX9_wipe : MethodName := ⟨RX9, "wipe", "()I"⟩
abbrev cX9_fault : ByteArray := prog_1_method_4_code
def yX9_fault : MethodName := ⟨RX9, "fault", "()I"⟩
abbrev cX9_lay : ByteArray := prog_1_method_5_code
def yX9_lay : MethodName := ⟨RX9, "lay", "()I"⟩
abbrev cX9_name : ByteArray := prog_1_method_6_code
def yX9_name : MethodName := ⟨RX9, "name", "(II)I"⟩
abbrev cX9_sign : ByteArray := prog_1_method_7_code
def yX9_sign : MethodName := ⟨RX9, "sign", "(II)I"⟩
abbrev cX9_layText : ByteArray := prog_1_method_8_code
def yX9_layText : MethodName := ⟨RX9, "layText", "()V"⟩
abbrev cX9_readItem : ByteArray := prog_1_method_9_code
def yX9_readItem : MethodName := ⟨RX9, "readItem", "(I)V"⟩
abbrev cX9_type : ByteArray := prog_1_method_10_code
def yX9_type : MethodName := ⟨RX9, "type", "(I)I"⟩
abbrev cX9_untype : ByteArray := prog_1_method_11_code
def yX9_untype : MethodName := ⟨RX9, "untype", "()I"⟩
abbrev cX9_roll : ByteArray := prog_1_method_12_code
def yX9_roll : MethodName := ⟨RX9, "roll", "()I"⟩
abbrev cX9_word : ByteArray := prog_1_method_13_code
def yX9_word : MethodName := ⟨RX9, "word", "(I)I"⟩
abbrev cX9_pick : ByteArray := prog_1_method_14_code
def yX9_pick : MethodName := ⟨RX9, "pick", "(I)I"⟩
abbrev cX9_forget : ByteArray := prog_1_method_15_code
def yX9_forget : MethodName := ⟨RX9, "forget", "(I)I"⟩
abbrev cX9_drop : ByteArray := prog_1_method_16_code
def yX9_drop : MethodName := ⟨RX9, "drop", "(I)I"⟩
abbrev cX9_rename : ByteArray := prog_1_method_17_code
def yX9_rename : MethodName := ⟨RX9, "rename", "(II)I"⟩
abbrev cX9_worth : ByteArray := prog_1_method_18_code
def yX9_worth : MethodName := ⟨RX9, "worth", "(III)I"⟩
abbrev cX9_score : ByteArray := prog_1_method_19_code
def yX9_score : MethodName := ⟨RX9, "score", "(I)I"⟩
abbrev cX9_list : ByteArray := prog_1_method_20_code
def yX9_list : MethodName := ⟨RX9, "list", "(I)I"⟩
abbrev cX9_best : ByteArray := prog_1_method_21_code
def yX9_best : MethodName := ⟨RX9, "best", "(II)I"⟩
abbrev cX9_ways : ByteArray := prog_1_method_22_code
def yX9_ways : MethodName := ⟨RX9, "ways", "(I)I"⟩
abbrev cX9_passes : ByteArray := prog_1_method_23_code
def yX9_passes : MethodName := ⟨RX9, "passes", "(I)I"⟩
abbrev cX9_asked : ByteArray := prog_1_method_24_code
def yX9_asked : MethodName := ⟨RX9, "asked", "(I)I"⟩
abbrev cX9_brief : ByteArray := prog_1_method_25_code
def yX9_brief : MethodName := ⟨RX9, "brief", "(I)I"⟩
abbrev cX9_pair : ByteArray := prog_1_method_26_code
def yX9_pair : MethodName := ⟨RX9, "pair", "(II)I"⟩
abbrev cX9_seekScore : ByteArray := prog_1_method_27_code
def yX9_seekScore : MethodName := ⟨RX9, "seekScore", "(LNameSeeker$Name;)I"⟩
abbrev cX9_seekScores : ByteArray := prog_1_method_28_code
def yX9_seekScores : MethodName := ⟨RX9, "seekScores", "()V"⟩
abbrev cX9_isFirstBy : ByteArray := prog_1_method_29_code
def yX9_isFirstBy : MethodName := ⟨RX9, "isFirstBy", "(III)Z"⟩
abbrev cX9_keep : ByteArray := prog_1_method_30_code
def yX9_keep : MethodName := ⟨RX9, "keep", "()I"⟩
abbrev cX9_back : ByteArray := prog_1_method_31_code
def yX9_back : MethodName := ⟨RX9, "back", "()I"⟩
abbrev cX9_count : ByteArray := prog_1_method_32_code
def yX9_count : MethodName := ⟨RX9, "count", "(I)I"⟩
abbrev cX9_isSmall : ByteArray := prog_1_method_33_code
def yX9_isSmall : MethodName := ⟨RX9, "isSmall", "(I)Z"⟩
abbrev cX9_isGreat : ByteArray := prog_1_method_34_code
def yX9_isGreat : MethodName := ⟨RX9, "isGreat", "(I)Z"⟩
abbrev cX9_isLetter : ByteArray := prog_1_method_35_code
def yX9_isLetter : MethodName := ⟨RX9, "isLetter", "(I)Z"⟩
abbrev cX9_isSign : ByteArray := prog_1_method_36_code
def yX9_isSign : MethodName := ⟨RX9, "isSign", "(I)Z"⟩
abbrev cX9_letterNumber : ByteArray := prog_1_method_37_code
def yX9_letterNumber : MethodName := ⟨RX9, "letterNumber", "(I)I"⟩
def RX10 : String := "NameSeekerModel"
def TX10 : u_T := fun k => match k with
  | 0 => ("NameSeekerModel", "length", "I", false)
  | 1 => ("NameSeekerModel", "text", "[I", true)
  | 2 => ("NameSeekerModel", "names", "I", false)
  | 3 => ("NameSeekerModel", "signs", "[I", true)
  | 4 => ("NameSeekerModel", "sizes", "[I", true)
  | 5 => ("NameSeekerModel", "kinds", "[I", true)
  | 6 => ("NameSeekerModel", "ids", "[I", true)
  | 7 => ("NameSeekerModel", "picks", "[I", true)
  | 8 => ("NameSeekerModel", "worths", "[I", true)
  | 9 => ("NameSeekerModel", "readNames", "I", false)
  | 10 => ("NameSeekerModel", "readSigns", "[I", true)
  | 11 => ("NameSeekerModel", "readSizes", "[I", true)
  | 12 => ("NameSeekerModel", "readKinds", "[I", true)
  | 13 => ("NameSeekerModel", "readWorths", "[I", true)
  | 14 => ("NameSeekerModel", "wordSize", "I", false)
  | 15 => ("NameSeekerModel", "wordRow", "[I", true)
  | 16 => ("NameSeekerModel", "kept", "I", false)
  | 17 => ("NameSeekerModel", "keptRows", "[I", true)
  | 18 => ("NameSeekerModel", "keptSizes", "[I", true)
  | 19 => ("NameSeekerModel", "laid", "I", false)
  | 20 => ("NameSeekerModel", "tick", "I", false)
  | 21 => ("NameSeekerModel", "age", "I", false)
  | 22 => ("NameSeekerModel", "hits", "I", false)
  | 23 => ("NameSeekerModel", "misses", "I", false)
  | 24 => ("NameSeekerModel", "seed", "I", false)
  | 25 => ("NameSeekerModel", "askedMany", "I", false)
  | 26 => ("NameSeekerModel", "askedCodes", "[J", true)
  | 27 => ("NameSeekerModel", "knownIds", "[I", true)
  | 28 => ("NameSeekerModel", "knownCodes", "[J", true)
  | 29 => ("NameSeekerModel", "knownAges", "[I", true)
  | 30 => ("NameSeekerModel", "knownScores", "[I", true)
  | 31 => ("NameSeekerModel", "triedSize", "I", false)
  | 32 => ("NameSeekerModel", "tried", "[I", true)
  | 33 => ("NameSeekerModel", "at", "[I", true)
  | 34 => ("NameSeekerModel", "bestAt", "[I", true)
  | 35 => ("NameSeekerModel", "bestWorth", "I", false)
  | 36 => ("NameSeekerModel", "scores", "[I", true)
  | 37 => ("NameSeekerModel", "firstLetters", "[I", true)
  | 38 => ("NameSeekerModel", "lastLetters", "[I", true)
  | 39 => ("NameSeekerModel", "firstSizes", "[I", true)
  | _ => ("NameSeekerModel", "firstKinds", "[I", true)
def tyX10 : Nat → FieldType := fun k => match k with
  | 0 => .int
  | 1 => .array .int
  | 2 => .int
  | 3 => .array .int
  | 4 => .array .int
  | 5 => .array .int
  | 6 => .array .int
  | 7 => .array .int
  | 8 => .array .int
  | 9 => .int
  | 10 => .array .int
  | 11 => .array .int
  | 12 => .array .int
  | 13 => .array .int
  | 14 => .int
  | 15 => .array .int
  | 16 => .int
  | 17 => .array .int
  | 18 => .array .int
  | 19 => .int
  | 20 => .int
  | 21 => .int
  | 22 => .int
  | 23 => .int
  | 24 => .int
  | 25 => .int
  | 26 => .array .long
  | 27 => .array .int
  | 28 => .array .long
  | 29 => .array .int
  | 30 => .array .int
  | 31 => .int
  | 32 => .array .int
  | 33 => .array .int
  | 34 => .array .int
  | 35 => .int
  | 36 => .array .int
  | 37 => .array .int
  | 38 => .array .int
  | 39 => .array .int
  | _ => .array .int
abbrev wsX100 : List Cond := u_ws RX10 TX10 41
theorem nmX10 : ∀ a, a < 41 → ∀ b, b < 41 → a ≠ b → (TX10 a).2.1 ≠ (TX10 b).2.1 := by decide +kernel
theorem tyX10_ok : ∀ k, k < 41 → parseFieldDescriptor (TX10 k).2.2.1 = some (tyX10 k) := by decide +kernel
abbrev cX10_init : ByteArray := prog_12_method_1_code
def yX10_init : MethodName := ⟨RX10, "<init>", "()V"⟩
abbrev cX10_isSmall : ByteArray := prog_12_method_2_code
def yX10_isSmall : MethodName := ⟨RX10, "isSmall", "(I)Z"⟩
abbrev cX10_isGreat : ByteArray := prog_12_method_3_code
def yX10_isGreat : MethodName := ⟨RX10, "isGreat", "(I)Z"⟩
abbrev cX10_isSign : ByteArray := prog_12_method_4_code
def yX10_isSign : MethodName := ⟨RX10, "isSign", "(I)Z"⟩
abbrev cX10_letterAt : ByteArray := prog_12_method_5_code
def yX10_letterAt : MethodName := ⟨RX10, "letterAt", "(I)I"⟩
abbrev cX10_isFigure : ByteArray := prog_12_method_6_code
def yX10_isFigure : MethodName := ⟨RX10, "isFigure", "(II)Z"⟩
abbrev cX10_readsName : ByteArray := prog_12_method_7_code
def yX10_readsName : MethodName := ⟨RX10, "readsName", "(I)I"⟩
abbrev cX10_readsWorths : ByteArray := prog_12_method_8_code
def yX10_readsWorths : MethodName := ⟨RX10, "readsWorths", "(I)I"⟩
abbrev cX10_reads : ByteArray := prog_12_method_9_code
def yX10_reads : MethodName := ⟨RX10, "reads", "()I"⟩
abbrev cX10_write : ByteArray := prog_12_method_10_code
def yX10_write : MethodName := ⟨RX10, "write", "(I)I"⟩
abbrev cX10_wipe : ByteArray := prog_12_method_11_code
def yX10_wipe : MethodName := ⟨RX10, "wipe", "()I"⟩
abbrev cX10_fault : ByteArray := prog_12_method_12_code
def yX10_fault : MethodName := ⟨RX10, "fault", "()I"⟩
abbrev cX10_lay : ByteArray := prog_12_method_13_code
def yX10_lay : MethodName := ⟨RX10, "lay", "()I"⟩
abbrev cX10_isName : ByteArray := prog_12_method_14_code
def yX10_isName : MethodName := ⟨RX10, "isName", "(I)Z"⟩
abbrev cX10_isBeginning : ByteArray := prog_12_method_15_code
def yX10_isBeginning : MethodName := ⟨RX10, "isBeginning", "(II)Z"⟩
abbrev cX10_name : ByteArray := prog_12_method_16_code
def yX10_name : MethodName := ⟨RX10, "name", "(II)I"⟩
abbrev cX10_sign : ByteArray := prog_12_method_17_code
def yX10_sign : MethodName := ⟨RX10, "sign", "(II)I"⟩
abbrev cX10_type : ByteArray := prog_12_method_18_code
def yX10_type : MethodName := ⟨RX10, "type", "(I)I"⟩
abbrev cX10_untype : ByteArray := prog_12_method_19_code
def yX10_untype : MethodName := ⟨RX10, "untype", "()I"⟩
abbrev cX10_roll : ByteArray := prog_12_method_20_code
def yX10_roll : MethodName := ⟨RX10, "roll", "()I"⟩
abbrev cX10_word : ByteArray := prog_12_method_21_code
def yX10_word : MethodName := ⟨RX10, "word", "(I)I"⟩
abbrev cX10_code : ByteArray := prog_12_method_22_code
def yX10_code : MethodName := ⟨RX10, "code", "()J"⟩
abbrev cX10_pick : ByteArray := prog_12_method_23_code
def yX10_pick : MethodName := ⟨RX10, "pick", "(I)I"⟩
abbrev cX10_forget : ByteArray := prog_12_method_24_code
def yX10_forget : MethodName := ⟨RX10, "forget", "(I)I"⟩
abbrev cX10_drop : ByteArray := prog_12_method_25_code
def yX10_drop : MethodName := ⟨RX10, "drop", "(I)I"⟩
abbrev cX10_rename : ByteArray := prog_12_method_26_code
def yX10_rename : MethodName := ⟨RX10, "rename", "(II)I"⟩
abbrev cX10_worth : ByteArray := prog_12_method_27_code
def yX10_worth : MethodName := ⟨RX10, "worth", "(III)I"⟩
abbrev cX10_low : ByteArray := prog_12_method_28_code
def yX10_low : MethodName := ⟨RX10, "low", "(I)I"⟩
abbrev cX10_isAlike : ByteArray := prog_12_method_29_code
def yX10_isAlike : MethodName := ⟨RX10, "isAlike", "(III)Z"⟩
abbrev cX10_goesOn : ByteArray := prog_12_method_30_code
def yX10_goesOn : MethodName := ⟨RX10, "goesOn", "(I)Z"⟩
abbrev cX10_isWay : ByteArray := prog_12_method_31_code
def yX10_isWay : MethodName := ⟨RX10, "isWay", "(I)Z"⟩
abbrev cX10_worthOfWay : ByteArray := prog_12_method_32_code
def yX10_worthOfWay : MethodName := ⟨RX10, "worthOfWay", "(I)I"⟩
abbrev cX10_waysOf : ByteArray := prog_12_method_33_code
def yX10_waysOf : MethodName := ⟨RX10, "waysOf", "(I)I"⟩
abbrev cX10_triesWord : ByteArray := prog_12_method_34_code
def yX10_triesWord : MethodName := ⟨RX10, "triesWord", "()V"⟩
abbrev cX10_has : ByteArray := prog_12_method_35_code
def yX10_has : MethodName := ⟨RX10, "has", "(II)Z"⟩
abbrev cX10_passing : ByteArray := prog_12_method_36_code
def yX10_passing : MethodName := ⟨RX10, "passing", "(I)Z"⟩
abbrev cX10_sought : ByteArray := prog_12_method_37_code
def yX10_sought : MethodName := ⟨RX10, "sought", "(I)I"⟩
abbrev cX10_score : ByteArray := prog_12_method_38_code
def yX10_score : MethodName := ⟨RX10, "score", "(I)I"⟩
abbrev cX10_isAhead : ByteArray := prog_12_method_39_code
def yX10_isAhead : MethodName := ⟨RX10, "isAhead", "(II)Z"⟩
abbrev cX10_aheadOf : ByteArray := prog_12_method_40_code
def yX10_aheadOf : MethodName := ⟨RX10, "aheadOf", "(I)I"⟩
abbrev cX10_list : ByteArray := prog_12_method_41_code
def yX10_list : MethodName := ⟨RX10, "list", "(I)I"⟩
abbrev cX10_best : ByteArray := prog_12_method_42_code
def yX10_best : MethodName := ⟨RX10, "best", "(II)I"⟩
abbrev cX10_ways : ByteArray := prog_12_method_43_code
def yX10_ways : MethodName := ⟨RX10, "ways", "(I)I"⟩
abbrev cX10_passes : ByteArray := prog_12_method_44_code
def yX10_passes : MethodName := ⟨RX10, "passes", "(I)I"⟩
abbrev cX10_asked : ByteArray := prog_12_method_45_code
def yX10_asked : MethodName := ⟨RX10, "asked", "(I)I"⟩
abbrev cX10_isFirst : ByteArray := prog_12_method_46_code
def yX10_isFirst : MethodName := ⟨RX10, "isFirst", "(I)Z"⟩
abbrev cX10_brief : ByteArray := prog_12_method_47_code
def yX10_brief : MethodName := ⟨RX10, "brief", "(I)I"⟩
abbrev cX10_pair : ByteArray := prog_12_method_48_code
def yX10_pair : MethodName := ⟨RX10, "pair", "(II)I"⟩
abbrev cX10_keep : ByteArray := prog_12_method_49_code
def yX10_keep : MethodName := ⟨RX10, "keep", "()I"⟩
abbrev cX10_back : ByteArray := prog_12_method_50_code
def yX10_back : MethodName := ⟨RX10, "back", "()I"⟩
abbrev cX10_count : ByteArray := prog_12_method_51_code
def yX10_count : MethodName := ⟨RX10, "count", "(I)I"⟩
def RJ6 : String := "java/lang/Integer"
def TJ6 : u_T := fun k => match k with
  | _ => ("", "", "", false)
def tyJ6 : Nat → FieldType := fun k => match k with
  | _ => .int
abbrev wsJ60 : List Cond := u_ws RJ6 TJ6 0
theorem nmJ6 : ∀ a, a < 0 → ∀ b, b < 0 → a ≠ b → (TJ6 a).2.1 ≠ (TJ6 b).2.1 := by decide +kernel
theorem tyJ6_ok : ∀ k, k < 0 → parseFieldDescriptor (TJ6 k).2.2.1 = some (tyJ6 k) := by decide +kernel
abbrev cJ6_bitCount_0f7a4 : ByteArray := prog_13_method_49_code
def yJ6_bitCount_0f7a4 : MethodName := ⟨RJ6, "bitCount", "(I)I"⟩
def RJ9 : String := "java/lang/Math"
def TJ9 : u_T := fun k => match k with
  | _ => ("", "", "", false)
def tyJ9 : Nat → FieldType := fun k => match k with
  | _ => .int
abbrev wsJ90 : List Cond := u_ws RJ9 TJ9 0
theorem nmJ9 : ∀ a, a < 0 → ∀ b, b < 0 → a ≠ b → (TJ9 a).2.1 ≠ (TJ9 b).2.1 := by decide +kernel
theorem tyJ9_ok : ∀ k, k < 0 → parseFieldDescriptor (TJ9 k).2.2.1 = some (tyJ9 k) := by decide +kernel
abbrev cJ9_min_7cf53 : ByteArray := prog_14_method_69_code
def yJ9_min_7cf53 : MethodName := ⟨RJ9, "min", "(II)I"⟩
def RJ0 : String := "java/lang/String"
def TJ0 : u_T := fun k => match k with
  | _ => ("", "", "", false)
def tyJ0 : Nat → FieldType := fun k => match k with
  | _ => .int
abbrev wsJ00 : List Cond := u_ws RJ0 TJ0 0
theorem nmJ0 : ∀ a, a < 0 → ∀ b, b < 0 → a ≠ b → (TJ0 a).2.1 ≠ (TJ0 b).2.1 := by decide +kernel
theorem tyJ0_ok : ∀ k, k < 0 → parseFieldDescriptor (TJ0 k).2.2.1 = some (tyJ0 k) := by decide +kernel
abbrev cJ0_length_8abf5 : ByteArray := prog_15_method_54_code
def yJ0_length_8abf5 : MethodName := ⟨RJ0, "length", "()I"⟩
abbrev cJ0_charAt_5068e : ByteArray := prog_15_method_56_code
def yJ0_charAt_5068e : MethodName := ⟨RJ0, "charAt", "(I)C"⟩
abbrev cJ0_coder_7d493 : ByteArray := prog_15_method_152_code
def yJ0_coder_7d493 : MethodName := ⟨RJ0, "coder", "()B"⟩
abbrev cJ0_isLatin1_aae02 : ByteArray := prog_15_method_154_code
def yJ0_isLatin1_aae02 : MethodName := ⟨RJ0, "isLatin1", "()Z"⟩
abbrev cJ0_checkIndex_df160 : ByteArray := prog_15_method_155_code
def yJ0_checkIndex_df160 : MethodName := ⟨RJ0, "checkIndex", "(II)V"⟩
def RJ1 : String := "java/lang/StringLatin1"
def TJ1 : u_T := fun k => match k with
  | _ => ("", "", "", false)
def tyJ1 : Nat → FieldType := fun k => match k with
  | _ => .int
abbrev wsJ10 : List Cond := u_ws RJ1 TJ1 0
theorem nmJ1 : ∀ a, a < 0 → ∀ b, b < 0 → a ≠ b → (TJ1 a).2.1 ≠ (TJ1 b).2.1 := by decide +kernel
theorem tyJ1_ok : ∀ k, k < 0 → parseFieldDescriptor (TJ1 k).2.2.1 = some (tyJ1 k) := by decide +kernel
abbrev cJ1_charAt_3b067 : ByteArray := prog_16_method_2_code
def yJ1_charAt_3b067 : MethodName := ⟨RJ1, "charAt", "([BI)C"⟩
def RJ2 : String := "java/lang/StringUTF16"
def TJ2 : u_T := fun k => match k with
  | _ => ("", "", "", false)
def tyJ2 : Nat → FieldType := fun k => match k with
  | _ => .int
abbrev wsJ20 : List Cond := u_ws RJ2 TJ2 0
theorem nmJ2 : ∀ a, a < 0 → ∀ b, b < 0 → a ≠ b → (TJ2 a).2.1 ≠ (TJ2 b).2.1 := by decide +kernel
theorem tyJ2_ok : ∀ k, k < 0 → parseFieldDescriptor (TJ2 k).2.2.1 = some (tyJ2 k) := by decide +kernel
abbrev cJ2_getChar_3b067 : ByteArray := prog_17_method_5_code
def yJ2_getChar_3b067 : MethodName := ⟨RJ2, "getChar", "([BI)C"⟩
abbrev cJ2_length_9d52b : ByteArray := prog_17_method_6_code
def yJ2_length_9d52b : MethodName := ⟨RJ2, "length", "([B)I"⟩
abbrev cJ2_charAt_3b067 : ByteArray := prog_17_method_83_code
def yJ2_charAt_3b067 : MethodName := ⟨RJ2, "charAt", "([BI)C"⟩
abbrev cJ2_checkIndex_2214a : ByteArray := prog_17_method_91_code
def yJ2_checkIndex_2214a : MethodName := ⟨RJ2, "checkIndex", "(I[B)V"⟩
def RJ3 : String := "jdk/internal/util/Preconditions"
def TJ3 : u_T := fun k => match k with
  | _ => ("", "", "", false)
def tyJ3 : Nat → FieldType := fun k => match k with
  | _ => .int
abbrev wsJ30 : List Cond := u_ws RJ3 TJ3 0
theorem nmJ3 : ∀ a, a < 0 → ∀ b, b < 0 → a ≠ b → (TJ3 a).2.1 ≠ (TJ3 b).2.1 := by decide +kernel
theorem tyJ3_ok : ∀ k, k < 0 → parseFieldDescriptor (TJ3 k).2.2.1 = some (tyJ3 k) := by decide +kernel
abbrev cJ3_checkIndex_8e157 : ByteArray := prog_18_method_11_code
def yJ3_checkIndex_8e157 : MethodName := ⟨RJ3, "checkIndex", "(IILjava/util/function/BiFunction;)I"⟩
def RL : String := "NameSeekerLaw"
abbrev cL_law : ByteArray := code
def yL_law : MethodName := ⟨RL, "law", "([I)Z"⟩
abbrev vwCl : List vw_C := [(RX0, TX0, 2), (RX1, TX1, 6), (RX2, TX2, 4), (RX3, TX3, 3), (RX4, TX4, 7), (RX5, TX5, 3), (RX6, TX6, 3), (RX7, TX7, 2), (RX8, TX8, 2), (RX9, TX9, 14), (RX10, TX10, 41)]
/-! the words: the good ones of the table -/
def TB : List Cond := lw_tbl.filter goodWord
theorem tbI {w : Cond} (i : Nat) (h : lw_tbl[i]? = some w) (g : goodWord w = true) : w ∈ TB := List.mem_filter.mpr ⟨List.mem_of_getElem? h, g⟩
theorem tbW {ws : List Cond} (ps : List Nat) (hp : ws = ps.filterMap (fun i => lw_tbl[i]?)) (h : ws.all goodWord = true) : ∀ w ∈ ws, w ∈ TB := fun w hw => List.mem_filter.mpr ⟨(goodIn_r ws ps hp h w hw).1, List.all_eq_true.mp h w hw⟩
theorem inlX0 : ∀ w ∈ wsX00, w ∈ TB := tbW [234, 236] (by decide +kernel) (by decide +kernel)
theorem inlX1 : ∀ w ∈ wsX10, w ∈ TB := tbW [210, 212, 214, 216, 218, 220] (by decide +kernel) (by decide +kernel)
theorem inlX2 : ∀ w ∈ wsX20, w ∈ TB := tbW [185, 187, 189, 191] (by decide +kernel) (by decide +kernel)
theorem inlX3 : ∀ w ∈ wsX30, w ∈ TB := tbW [129, 131, 133] (by decide +kernel) (by decide +kernel)
theorem inlX4 : ∀ w ∈ wsX40, w ∈ TB := tbW [106, 108, 110, 112, 114, 116, 118] (by decide +kernel) (by decide +kernel)
theorem inlX5 : ∀ w ∈ wsX50, w ∈ TB := tbW [251, 253, 255] (by decide +kernel) (by decide +kernel)
theorem inlX6 : ∀ w ∈ wsX60, w ∈ TB := tbW [148, 150, 152] (by decide +kernel) (by decide +kernel)
theorem inlX7 : ∀ w ∈ wsX70, w ∈ TB := tbW [68, 70] (by decide +kernel) (by decide +kernel)
theorem inlX8 : ∀ w ∈ wsX80, w ∈ TB := tbW [167, 169] (by decide +kernel) (by decide +kernel)
theorem inlX9 : ∀ w ∈ wsX90, w ∈ TB := tbW [415, 417, 419, 421, 423, 425, 427, 429, 431, 433, 435, 437, 439, 441] (by decide +kernel) (by decide +kernel)
theorem inlX10 : ∀ w ∈ wsX100, w ∈ TB := tbW [735, 737, 739, 741, 743, 745, 747, 749, 751, 753, 755, 757, 759, 761, 763, 765, 767, 769, 771, 773, 775, 777, 779, 781, 783, 785, 787, 789, 791, 793, 795, 797, 799, 801, 803, 805, 807, 809, 811, 813, 815] (by decide +kernel) (by decide +kernel)
end
section
/-! ints of the machine as integers -/
def iI (z : Int) : Int32 := Int32.ofInt z
def lI (z : Int) : Int64 := Int64.ofInt z
theorem iI_add (a b : Int) : iI a + iI b = iI (a + b) := (Int32.ofInt_add a b).symm
theorem iI_sub (a b : Int) : iI a - iI b = iI (a - b) := (Int32.ofInt_sub a b).symm
theorem iI_mul (a b : Int) : iI a * iI b = iI (a * b) := (Int32.ofInt_mul a b).symm
theorem iI_neg (a : Int) : - iI a = iI (-a) := (Int32.ofInt_neg a).symm
theorem iI_of (x : Int32) : iI x.toInt = x := Int32.ofInt_toInt x
theorem iI_t {z : Int} (h : -2147483648 ≤ z ∧ z < 2147483648) : (iI z).toInt = z := Int32.toInt_ofInt_of_le (by omega) (by omega)
theorem iI_lt {a b : Int} (ha : -2147483648 ≤ a ∧ a < 2147483648) (hb : -2147483648 ≤ b ∧ b < 2147483648) : iI a < iI b ↔ a < b := by rw [Int32.lt_iff_toInt_lt, iI_t ha, iI_t hb]
theorem iI_le {a b : Int} (ha : -2147483648 ≤ a ∧ a < 2147483648) (hb : -2147483648 ≤ b ∧ b < 2147483648) : iI a ≤ iI b ↔ a ≤ b := by rw [Int32.le_iff_toInt_le, iI_t ha, iI_t hb]
theorem iI_eq {a b : Int} (ha : -2147483648 ≤ a ∧ a < 2147483648) (hb : -2147483648 ≤ b ∧ b < 2147483648) : iI a = iI b ↔ a = b := ⟨fun h => by rw [← iI_t ha, h, iI_t hb], fun h => by rw [h]⟩
theorem iI_nat (n : Nat) : iI (n : Int) = nI n := by unfold iI nI; exact Int32.ofInt_eq_ofNat
theorem lI_nat (n : Nat) : lI (n : Int) = lN n := by unfold lI lN; exact Int64.ofInt_eq_ofNat
theorem iI_cl {z : Int} (h0 : 0 ≤ z) (h : z < 2147483648) : ((iI z).toNatClampNeg : Int) = z := by
  obtain ⟨n, rfl⟩ : ∃ n : Nat, z = n := ⟨z.toNat, by omega⟩
  rw [iI_nat, nI_clamp (by omega)]
theorem iI_in {z : Int} {n : Nat} (h0 : 0 ≤ z) (h : z < n) (hn : n < 2147483648) : vp_in (iI z) n := by
  obtain ⟨k, rfl⟩ : ∃ n : Nat, z = n := ⟨z.toNat, by omega⟩
  rw [iI_nat]
  exact vp_in_nI (by omega) (by omega)
theorem iI_rem {a b : Int} (h0 : 0 ≤ a) (h1 : a < 2147483648) (h2 : 0 < b) (h3 : b < 2147483648) : iI a - iI a / iI b * iI b = iI (a % b) := by
  obtain ⟨x, rfl⟩ : ∃ n : Nat, a = n := ⟨a.toNat, by omega⟩
  obtain ⟨y, rfl⟩ : ∃ n : Nat, b = n := ⟨b.toNat, by omega⟩
  rw [iI_nat, iI_nat, pk_rem (by omega) (by omega) (by omega), ← Int.natCast_emod, iI_nat]
theorem iI_char {z : Int} (h0 : 0 ≤ z) (h : z < 65536) : narrow .char (.int (iI z)) = .int (iI z) ∧ fits .char (.int (iI z)) = true ∧ vp_nar .char (iI z) = iI z ∧ ((iI z).toUInt32 % 65536).toInt32 = iI z := by
  obtain ⟨x, rfl⟩ : ∃ n : Nat, z = n := ⟨z.toNat, by omega⟩
  have hx : x < 65536 := by omega
  rw [iI_nat]
  have h5 : ((nI x).toUInt32 % 65536).toInt32 = nI x := by
    rw [pk_char, pk_tn (by omega), Nat.mod_eq_of_lt hx]
  refine ⟨(pk_charN hx).1, (pk_charN hx).2, ?_, h5⟩
  rw [vp_nar_char]
  first | exact h5 | (rw [← h5]; simp)
theorem lI_add (a b : Int) : lI a + lI b = lI (a + b) := (Int64.ofInt_add a b).symm
theorem lI_mul (a b : Int) : lI a * lI b = lI (a * b) := (Int64.ofInt_mul a b).symm
theorem lI_t {z : Int} (h : -9223372036854775808 ≤ z ∧ z < 9223372036854775808) : (lI z).toInt = z := Int64.toInt_ofInt_of_le (by omega) (by omega)
theorem lI_eq {a b : Int} (ha : -9223372036854775808 ≤ a ∧ a < 9223372036854775808) (hb : -9223372036854775808 ≤ b ∧ b < 9223372036854775808) : lI a = lI b ↔ a = b := ⟨fun h => by rw [← lI_t ha, h, lI_t hb], fun h => by rw [h]⟩
theorem iI_l {z : Int} (h : -2147483648 ≤ z ∧ z < 2147483648) : (iI z).toInt64 = lI z := by
  apply Int64.toInt_inj.mp
  rw [Int32.toInt_toInt64, iI_t h, lI_t (by omega)]
theorem lI_i (z : Int) : (lI z).toInt32 = iI z := by unfold lI iI; first | exact Int64.toInt32_ofInt z | exact Int64.toInt32_ofInt | simp
theorem lI_rem {a b : Int} (h0 : 0 ≤ a) (h1 : a < 9223372036854775808) (h2 : 0 < b) (h3 : b < 9223372036854775808) : lI a - lI a / lI b * lI b = lI (a % b) := by
  obtain ⟨x, rfl⟩ : ∃ n : Nat, a = n := ⟨a.toNat, by omega⟩
  obtain ⟨y, rfl⟩ : ∃ n : Nat, b = n := ⟨b.toNat, by omega⟩
  rw [lI_nat, lI_nat, pk_lRem (by omega) (by omega) (by omega), ← Int.natCast_emod, lI_nat]
/-! an answer that is a boolean -/
def bI (P : Prop) [Decidable P] : Int := if P then 1 else 0
theorem bI_t {P : Prop} [Decidable P] (h : P) : bI P = 1 := if_pos h
theorem bI_f {P : Prop} [Decidable P] (h : ¬ P) : bI P = 0 := if_neg h
/-! the store: component, place; the second part: which object stands at a place of the row of names -/
abbrev St : Type := (Nat → Int → Int) × (Nat → Nat)
def us (f : Nat → Int → Int) (c : Nat) (v : Int) : Nat → Int → Int := fun c' j => bif Nat.beq c' c then v else f c' j
def ua (f : Nat → Int → Int) (c : Nat) (i v : Int) : Nat → Int → Int := fun c' j => bif Nat.beq c' c && decide (j = i) then v else f c' j
theorem us_at (f : Nat → Int → Int) (c : Nat) (v : Int) (c' : Nat) (j : Int) : us f c v c' j = if c' = c then v else f c' j := by
  unfold us
  by_cases h : c' = c
  · subst h; simp
  · have : Nat.beq c' c = false := by
      cases hb : Nat.beq c' c with
      | false => rfl
      | true => exact absurd (Nat.eq_of_beq_eq_true hb) h
    rw [this, if_neg h]; rfl
theorem ua_at (f : Nat → Int → Int) (c : Nat) (i v : Int) (c' : Nat) (j : Int) : ua f c i v c' j = if c' = c ∧ j = i then v else f c' j := by
  unfold ua
  by_cases h : c' = c
  · subst h
    by_cases h2 : j = i
    · simp [h2]
    · simp [h2]
  · have : Nat.beq c' c = false := by
      cases hb : Nat.beq c' c with
      | false => rfl
      | true => exact absurd (Nat.eq_of_beq_eq_true hb) h
    rw [this, if_neg (fun q => h q.1)]; rfl
theorem upd_ua {f : Nat → Int → Int} {c : Nat} {z v : Int} (h0 : 0 ≤ z) (h : z < 2147483648) : upd (fun j : Nat => iI (f c j)) (iI z).toNatClampNeg (iI v) = fun j : Nat => iI (ua f c z v c j) := by
  funext j
  have e := iI_cl h0 h
  rw [ua_at]
  unfold upd
  by_cases hj : j = (iI z).toNatClampNeg
  · rw [if_pos hj, if_pos ⟨rfl, by rw [hj, e]⟩]
  · rw [if_neg hj, if_neg (fun q => hj (by omega))]
theorem updL_ua {f : Nat → Int → Int} {c : Nat} {z v : Int} (h0 : 0 ≤ z) (h : z < 2147483648) : vp_updL (fun j : Nat => lI (f c j)) (iI z).toNatClampNeg (lI v) = fun j : Nat => lI (ua f c z v c j) := by
  funext j
  have e := iI_cl h0 h
  rw [ua_at]
  unfold vp_updL
  by_cases hj : j = (iI z).toNatClampNeg
  · rw [if_pos hj, if_pos ⟨rfl, by rw [hj, e]⟩]
  · rw [if_neg hj, if_neg (fun q => hj (by omega))]
/-! the words -/
theorem goodTB : ∀ w ∈ TB, goodWord w = true := fun _ h => (List.mem_filter.mp h).2
theorem gdT {ws : List Cond} (h : ∀ w ∈ ws, w ∈ TB) : GoodIn TB ws := fun w hw => ⟨h w hw, good_of_word (goodTB w (h w hw))⟩
theorem gdC {w : Cond} {ws : List Cond} (h : w ∈ TB) (h2 : GoodIn TB ws) : GoodIn TB (w :: ws) := fun v hv => (List.mem_cons.mp hv).elim (fun e => by subst e; exact ⟨h, good_of_word (goodTB v h)⟩) (h2 v)
theorem gdN : GoodIn TB [] := fun w hw => by cases hw
theorem gdB : GoodIn TB TB := gdT (fun w h => h)
/-! nest mates' links -/
def nestL : List (String × Nat × MethodName × String) := [("NameSeeker$Name", 38, yX9_isLetter, "NameSeeker"), ("NameSeeker$Name", 46, yX9_isGreat, "NameSeeker"), ("NameSeeker$Name", 49, yX9_isSmall, "NameSeeker"), ("NameSeeker$Name", 42, yX9_letterNumber, "NameSeeker"), ("NameSeeker$Text", 37, yX9_isSign, "NameSeeker"), ("NameSeeker$Word", 19, yX9_isGreat, "NameSeeker"), ("NameSeeker$Word", 25, yX9_letterNumber, "NameSeeker"), ("NameSeeker$Lot", 24, yX4_init, "NameSeeker"), ("NameSeeker", 9, yX7_init, "NameSeeker"), ("NameSeeker", 25, yX6_init, "NameSeeker"), ("NameSeeker", 32, yX8_init, "NameSeeker"), ("NameSeeker", 46, yX2_init, "NameSeeker"), ("NameSeeker", 53, yX1_init, "NameSeeker"), ("NameSeeker", 60, yX0_init, "NameSeeker"), ("NameSeeker", 67, yX5_init, "NameSeeker")]
def Nst (U : State) : Prop := ∀ q ∈ nestL, va_Nw (.methodLinkNest q.1 q.2.1 q.2.2.1 q.2.2.2) U
theorem Nst.warm {s U : State} (h : s.WarmedH U.vm) (hN : Nst s) : Nst U := fun q hq => va_Nw.warmM h (hN q hq)
theorem Nst.same {s U : State} (h : s.vm = U.vm) (hN : Nst s) : Nst U := fun q hq => va_Nw.same rfl h (hN q hq)
/-! a side of the law: the world of a store -/
abbrev Sd : Type := va_G × List (ClassId × FieldType) × (St → va_W) × (Nat → Prop)
def WC (K : Sd) (S : St) (U : State) : Prop := va_K K.1 vwCl K.2.1 U ∧ va_P K.1 vwCl (K.2.2.1 S) U.heap ∧ va_D K.2.2.2 (K.2.2.1 S) ∧ Nst U
def In (K : Sd) (s : State) (H0 H : Heap) (locs : List Loc) (S : St) : Prop := va_K K.1 vwCl K.2.1 s ∧ va_P K.1 vwCl (K.2.2.1 S) H ∧ va_D K.2.2.2 (K.2.2.1 S) ∧ va_S K.2.2.2 H0 H locs ∧ Nst s
theorem WC.blind {K : Sd} {S : St} {av : List Value} : FrameBlind (va_Pc av (WC K S)) := fun a U g mk q => ⟨q.1, va_K.moved (u := U) (U := U.calling g mk a) (Vm.Alike.refl U.vm) q.2.1, q.2.2.1, q.2.2.2.1, Nst.same (s := U) (U := U.calling g mk a) rfl q.2.2.2.2⟩
theorem In.wc {K : Sd} {s t : State} {H0 H : Heap} {locs : List Loc} {S : St} (I : In K s H0 H locs S) (ht : t.heap = H) (hW : s.WarmedH t.vm) : WC K S t := ⟨va_K.moved hW.alike I.1, by rw [ht]; exact I.2.1, I.2.2.1, Nst.warm hW I.2.2.2.2⟩
abbrev QI (K : Sd) (post : Int → St → Prop) : Array Value → State → Outcome → State → Prop := va_Qi (fun r S1 => ∃ z, r = iI z ∧ post z S1) (fun S1 t => WC K S1 t) K.2.2.2
abbrev QL (K : Sd) (post : Int → St → Prop) : Array Value → State → Outcome → State → Prop := va_Ql (fun r S1 => ∃ z, r = lI z ∧ post z S1) (fun S1 t => WC K S1 t) K.2.2.2
abbrev QV (K : Sd) (post : St → Prop) : Array Value → State → Outcome → State → Prop := va_Qv post (fun S1 t => WC K S1 t) K.2.2.2
def Ki (K : Sd) (l : Launch) (y : MethodName) (cc : ByteArray) (n : Nat) (ret : FieldType) (rm : Room) (av : List Value) (S : St) (post : Int → St → Prop) : Prop := Met l y (.code y cc n (some ret) :: TB) rm (va_Pc av (WC K S)) (QI K post) 0 0 K.2.2.2
def Kl (K : Sd) (l : Launch) (y : MethodName) (cc : ByteArray) (n : Nat) (rm : Room) (av : List Value) (S : St) (post : Int → St → Prop) : Prop := Met l y (.code y cc n (some .long) :: TB) rm (va_Pc av (WC K S)) (QL K post) 0 0 K.2.2.2
def Kv (K : Sd) (l : Launch) (y : MethodName) (cc : ByteArray) (n : Nat) (rm : Room) (av : List Value) (S : St) (post : St → Prop) : Prop := Met l y (.code y cc n none :: TB) rm (va_Pc av (WC K S)) (QV K post) 0 0 K.2.2.2
section KST
variable {K : Sd} {l : Launch} {y : MethodName} {cc : ByteArray} {n : Nat} {ret : Option FieldType} {rm : Room} {av : List Value} {S : St} {own : String}
theorem K_start {Qc : Array Value → State → Outcome → State → Prop} (hy : plainName y.cls = true) (hc : y.cls = own) (hn : (lg_sl av).length ≤ n)
    (body : ∀ (p : Program) (e : Env) (s : State) (m : MethodId) (args : Array Value) (below : List Frame) (meth : Method) (c : Code), CallFix p m c cc n s args TB own → meth.sig.returnType = ret → meth.locks = false → In K s s.heap s.heap [] S → ∀ ls : Array Slot, lv_has ls n (lv_args 0 av) →
      W p l e rm s m args below meth c s.heap [] 0 0 (MQ below Qc args s 0 0 K.2.2.2) (F0 m 0 ls [])) : Met l y (.code y cc n ret :: TB) rm (va_Pc av (WC K S)) Qc 0 0 K.2.2.2 := by
  refine Met.ofW (cc := cc) (maxL := n) (ret := ret) hy rfl ?_
  intro p e s m args below meth c s₁ B hml hv
  obtain ⟨rfl, hK, hP, hD, hN⟩ := hv
  have hts := atoms_spec (ws := .code y cc n ret :: TB) B.pre
  have hown : s.vm.findClass y.cls = some m.cls := findClass_of_methodNamed B.named
  rw [hc] at hown
  rw [lg_entry_eq]
  exact body p e s m _ below meth c ⟨B.exec, B.bytes, hml, hown, fun w h => hts w (List.mem_cons_of_mem _ h)⟩ B.returns B.notSynchronized ⟨hK, hP, hD, va_S.rf, hN⟩ _ (lv_entry av hn)
end KST
section ROWS
variable {p : Program} {l : Launch} {e : Env} {R : Room} {s : State} {m : MethodId} {args : Array Value} {below : List Frame} {meth : Method} {c : Code} {H : Heap} {locs : List Loc} {cells slots : Nat} {Q : State → Prop}
variable {cc : ByteArray} {pc nL : Nat} {ls : Array Slot} {rest : List Value} {own : String}
/-! numbers -/
theorem ri_add (X : CallFix p m c cc nL s args TB own) {a b v : Int} (hv : a + b = v) (hdg : decode cc pc = .ok (.iadd, 1)) (k : W p l e R s m args below meth c H locs cells slots Q (F0 m (pc + 1) ls (.int (iI v) :: rest))) : W p l e R s m args below meth c H locs cells slots Q (F0 m pc ls (.int (iI b) :: .int (iI a) :: rest)) := by
  refine lv_iadd X.1 X.2.1 hdg ?_
  rw [iI_add, hv]; exact k
theorem ri_sub (X : CallFix p m c cc nL s args TB own) {a b v : Int} (hv : a - b = v) (hdg : decode cc pc = .ok (.isub, 1)) (k : W p l e R s m args below meth c H locs cells slots Q (F0 m (pc + 1) ls (.int (iI v) :: rest))) : W p l e R s m args below meth c H locs cells slots Q (F0 m pc ls (.int (iI b) :: .int (iI a) :: rest)) := by
  refine lv_isub X.1 X.2.1 hdg ?_
  rw [iI_sub, hv]; exact k
theorem ri_mul (X : CallFix p m c cc nL s args TB own) {a b v : Int} (hv : a * b = v) (hdg : decode cc pc = .ok (.imul, 1)) (k : W p l e R s m args below meth c H locs cells slots Q (F0 m (pc + 1) ls (.int (iI v) :: rest))) : W p l e R s m args below meth c H locs cells slots Q (F0 m pc ls (.int (iI b) :: .int (iI a) :: rest)) := by
  refine lv_imul X.1 X.2.1 hdg ?_
  rw [iI_mul, hv]; exact k
theorem ri_neg (X : CallFix p m c cc nL s args TB own) {a v : Int} (hv : -a = v) (hdg : decode cc pc = .ok (.ineg, 1)) (k : W p l e R s m args below meth c H locs cells slots Q (F0 m (pc + 1) ls (.int (iI v) :: rest))) : W p l e R s m args below meth c H locs cells slots Q (F0 m pc ls (.int (iI a) :: rest)) := by
  refine lv_ineg X.1 X.2.1 hdg ?_
  rw [iI_neg, hv]; exact k
theorem ri_rem (X : CallFix p m c cc nL s args TB own) {a b v : Int} (hv : a % b = v) (ha : 0 ≤ a ∧ a < 2147483648) (hb : 0 < b ∧ b < 2147483648) (hdg : decode cc pc = .ok (.irem, 1)) (k : W p l e R s m args below meth c H locs cells slots Q (F0 m (pc + 1) ls (.int (iI v) :: rest))) : W p l e R s m args below meth c H locs cells slots Q (F0 m pc ls (.int (iI b) :: .int (iI a) :: rest)) := by
  refine lv_irem X.1 X.2.1 hdg (fun h => ?_) ?_
  · have := (iI_eq (by omega) (by omega)).mp (show iI b = iI 0 from h)
    omega
  · rw [iI_rem ha.1 ha.2 hb.1 hb.2, hv]; exact k
theorem ri_i2l (X : CallFix p m c cc nL s args TB own) {a : Int} (ha : -2147483648 ≤ a ∧ a < 2147483648) (hdg : decode cc pc = .ok (.i2l, 1)) (k : W p l e R s m args below meth c H locs cells slots Q (F0 m (pc + 1) ls (.long (lI a) :: rest))) : W p l e R s m args below meth c H locs cells slots Q (F0 m pc ls (.int (iI a) :: rest)) := lv_i2l X.1 X.2.1 hdg (iI_l ha) k
theorem ri_l2i (X : CallFix p m c cc nL s args TB own) {a : Int} (hdg : decode cc pc = .ok (.l2i, 1)) (k : W p l e R s m args below meth c H locs cells slots Q (F0 m (pc + 1) ls (.int (iI a) :: rest))) : W p l e R s m args below meth c H locs cells slots Q (F0 m pc ls (.long (lI a) :: rest)) := lv_l2i X.1 X.2.1 hdg (lI_i a) k
theorem ri_i2c (X : CallFix p m c cc nL s args TB own) {a : Int} (ha : 0 ≤ a ∧ a < 65536) (hdg : decode cc pc = .ok (.i2c, 1)) (k : W p l e R s m args below meth c H locs cells slots Q (F0 m (pc + 1) ls (.int (iI a) :: rest))) : W p l e R s m args below meth c H locs cells slots Q (F0 m pc ls (.int (iI a) :: rest)) := lv_i2c X.1 X.2.1 hdg (iI_char ha.1 ha.2).2.2.2 k
theorem ri_ladd (X : CallFix p m c cc nL s args TB own) {a b v : Int} (hv : a + b = v) (hdg : decode cc pc = .ok (.ladd, 1)) (k : W p l e R s m args below meth c H locs cells slots Q (F0 m (pc + 1) ls (.long (lI v) :: rest))) : W p l e R s m args below meth c H locs cells slots Q (F0 m pc ls (.long (lI b) :: .long (lI a) :: rest)) := by
  refine lv_ladd X.1 X.2.1 hdg ?_
  rw [lI_add, hv]; exact k
theorem ri_lmul (X : CallFix p m c cc nL s args TB own) {a b v : Int} (hv : a * b = v) (hdg : decode cc pc = .ok (.lmul, 1)) (k : W p l e R s m args below meth c H locs cells slots Q (F0 m (pc + 1) ls (.long (lI v) :: rest))) : W p l e R s m args below meth c H locs cells slots Q (F0 m pc ls (.long (lI b) :: .long (lI a) :: rest)) := by
  refine lv_lmul X.1 X.2.1 hdg ?_
  rw [lI_mul, hv]; exact k
theorem ri_lrem (X : CallFix p m c cc nL s args TB own) {a b v : Int} (hv : a % b = v) (ha : 0 ≤ a ∧ a < 9223372036854775808) (hb : 0 < b ∧ b < 9223372036854775808) (hdg : decode cc pc = .ok (.lrem, 1)) (k : W p l e R s m args below meth c H locs cells slots Q (F0 m (pc + 1) ls (.long (lI v) :: rest))) : W p l e R s m args below meth c H locs cells slots Q (F0 m pc ls (.long (lI b) :: .long (lI a) :: rest)) := by
  refine lv_lrem X.1 X.2.1 hdg (fun h => ?_) ?_
  · have := (lI_eq (by omega) (by omega)).mp (show lI b = lI 0 from h)
    omega
  · rw [lI_rem ha.1 ha.2 hb.1 hb.2, hv]; exact k
theorem ri_ldc2 (X : CallFix p m c cc nL s args TB own) {index : Nat} {v : Int} {w : Int64} (hc : Jvm.Cond.constantLong own index w ∈ TB) (hw : w = lI v) (hdg : decode cc pc = .ok (.ldc2_w index, 3)) (k : W p l e R s m args below meth c H locs cells slots Q (F0 m (pc + 3) ls (.long (lI v) :: rest))) : W p l e R s m args below meth c H locs cells slots Q (F0 m pc ls rest) := lv_ldc2 X.1 X.2.1 X.2.2.2.1 (X.2.2.2.2 _ hc) hdg (by rw [hw]; exact k)
theorem ri_const (X : CallFix p m c cc nL s args TB own) {v : Int} (hdg : decode cc pc = .ok (.iconst v, 1)) (k : W p l e R s m args below meth c H locs cells slots Q (F0 m (pc + 1) ls (.int (iI v) :: rest))) : W p l e R s m args below meth c H locs cells slots Q (F0 m pc ls rest) := lv_iconst X.1 X.2.1 hdg rfl k
theorem ri_push (X : CallFix p m c cc nL s args TB own) {n v : Int} (hv : (Int8.ofInt n).toInt32 = iI v) (hdg : decode cc pc = .ok (.bipush n, 2)) (k : W p l e R s m args below meth c H locs cells slots Q (F0 m (pc + 2) ls (.int (iI v) :: rest))) : W p l e R s m args below meth c H locs cells slots Q (F0 m pc ls rest) := lv_bipush X.1 X.2.1 hdg hv k
theorem ri_spush (X : CallFix p m c cc nL s args TB own) {n v : Int} (hv : (Int16.ofInt n).toInt32 = iI v) (hdg : decode cc pc = .ok (.sipush n, 3)) (k : W p l e R s m args below meth c H locs cells slots Q (F0 m (pc + 3) ls (.int (iI v) :: rest))) : W p l e R s m args below meth c H locs cells slots Q (F0 m pc ls rest) := lv_sipush X.1 X.2.1 hdg hv k
theorem ri_iinc (X : CallFix p m c cc nL s args TB own) {i k : Nat} {n a v : Int} {lv lv' : List (Nat × Value)} (hv : a + n = v) (hdg : decode cc pc = .ok (.iinc i n, 3)) (h : lv_has ls nL lv) (hk : lv[k]? = some (i, .int (iI a))) (hn : i < nL) (hl : (i, Value.int (iI v)) :: lv.filter (fun q => !(q.1 == i) && !(q.1 + 1 == i && q.2.category == 2)) = lv') (kk : ∀ ls : Array Slot, lv_has ls nL lv' → W p l e R s m args below meth c H locs cells slots Q (F0 m (pc + 3) ls rest)) : W p l e R s m args below meth c H locs cells slots Q (F0 m pc ls rest) :=
  lv_iinc X.1 X.2.1 hdg h hk (show iI a + iI n = iI v by rw [iI_add, hv]) hn hl kk
theorem rj_eq (X : CallFix p m c cc nL s args TB own) {a b off : Int} {tgt : Nat} (ha : -2147483648 ≤ a ∧ a < 2147483648) (hb : -2147483648 ≤ b ∧ b < 2147483648) (hdg : decode cc pc = .ok (.if_icmp .eq off, 3)) (ht : (pc : Int) + off = (tgt : Int)) (kt : a = b → W p l e R s m args below meth c H locs cells slots Q (F0 m tgt ls rest)) (kf : ¬ (a = b) → W p l e R s m args below meth c H locs cells slots Q (F0 m (pc + 3) ls rest)) : W p l e R s m args below meth c H locs cells slots Q (F0 m pc ls (.int (iI b) :: .int (iI a) :: rest)) := lv_icmp_eq X.1 X.2.1 hdg ht (fun h => kt ((iI_eq ha hb).mp h)) (fun h => kf (fun q => h ((iI_eq ha hb).mpr q)))
theorem rz_eq (X : CallFix p m c cc nL s args TB own) {a off : Int} {tgt : Nat} (ha : -2147483648 ≤ a ∧ a < 2147483648) (hdg : decode cc pc = .ok (.ifCond .eq off, 3)) (ht : (pc : Int) + off = (tgt : Int)) (kt : a = 0 → W p l e R s m args below meth c H locs cells slots Q (F0 m tgt ls rest)) (kf : ¬ (a = 0) → W p l e R s m args below meth c H locs cells slots Q (F0 m (pc + 3) ls rest)) : W p l e R s m args below meth c H locs cells slots Q (F0 m pc ls (.int (iI a) :: rest)) := lv_if_eq X.1 X.2.1 hdg ht (fun h => kt ((iI_eq ha (by omega)).mp h)) (fun h => kf (fun q => h ((iI_eq ha (by omega)).mpr q)))
theorem rj_ne (X : CallFix p m c cc nL s args TB own) {a b off : Int} {tgt : Nat} (ha : -2147483648 ≤ a ∧ a < 2147483648) (hb : -2147483648 ≤ b ∧ b < 2147483648) (hdg : decode cc pc = .ok (.if_icmp .ne off, 3)) (ht : (pc : Int) + off = (tgt : Int)) (kt : ¬ a = b → W p l e R s m args below meth c H locs cells slots Q (F0 m tgt ls rest)) (kf : a = b → W p l e R s m args below meth c H locs cells slots Q (F0 m (pc + 3) ls rest)) : W p l e R s m args below meth c H locs cells slots Q (F0 m pc ls (.int (iI b) :: .int (iI a) :: rest)) := lv_icmp_ne X.1 X.2.1 hdg ht (fun h => kt (fun q => h ((iI_eq ha hb).mpr q))) (fun h => kf ((iI_eq ha hb).mp h))
theorem rz_ne (X : CallFix p m c cc nL s args TB own) {a off : Int} {tgt : Nat} (ha : -2147483648 ≤ a ∧ a < 2147483648) (hdg : decode cc pc = .ok (.ifCond .ne off, 3)) (ht : (pc : Int) + off = (tgt : Int)) (kt : ¬ a = 0 → W p l e R s m args below meth c H locs cells slots Q (F0 m tgt ls rest)) (kf : a = 0 → W p l e R s m args below meth c H locs cells slots Q (F0 m (pc + 3) ls rest)) : W p l e R s m args below meth c H locs cells slots Q (F0 m pc ls (.int (iI a) :: rest)) := lv_if_ne X.1 X.2.1 hdg ht (fun h => kt (fun q => h ((iI_eq ha (by omega)).mpr q))) (fun h => kf ((iI_eq ha (by omega)).mp h))
theorem rj_lt (X : CallFix p m c cc nL s args TB own) {a b off : Int} {tgt : Nat} (ha : -2147483648 ≤ a ∧ a < 2147483648) (hb : -2147483648 ≤ b ∧ b < 2147483648) (hdg : decode cc pc = .ok (.if_icmp .lt off, 3)) (ht : (pc : Int) + off = (tgt : Int)) (kt : a < b → W p l e R s m args below meth c H locs cells slots Q (F0 m tgt ls rest)) (kf : ¬ (a < b) → W p l e R s m args below meth c H locs cells slots Q (F0 m (pc + 3) ls rest)) : W p l e R s m args below meth c H locs cells slots Q (F0 m pc ls (.int (iI b) :: .int (iI a) :: rest)) := lv_icmp_lt X.1 X.2.1 hdg ht (fun h => kt ((iI_lt ha hb).mp h)) (fun h => kf (fun q => h ((iI_lt ha hb).mpr q)))
theorem rz_lt (X : CallFix p m c cc nL s args TB own) {a off : Int} {tgt : Nat} (ha : -2147483648 ≤ a ∧ a < 2147483648) (hdg : decode cc pc = .ok (.ifCond .lt off, 3)) (ht : (pc : Int) + off = (tgt : Int)) (kt : a < 0 → W p l e R s m args below meth c H locs cells slots Q (F0 m tgt ls rest)) (kf : ¬ (a < 0) → W p l e R s m args below meth c H locs cells slots Q (F0 m (pc + 3) ls rest)) : W p l e R s m args below meth c H locs cells slots Q (F0 m pc ls (.int (iI a) :: rest)) := lv_if_lt X.1 X.2.1 hdg ht (fun h => kt ((iI_lt ha (by omega)).mp h)) (fun h => kf (fun q => h ((iI_lt ha (by omega)).mpr q)))
theorem rj_ge (X : CallFix p m c cc nL s args TB own) {a b off : Int} {tgt : Nat} (ha : -2147483648 ≤ a ∧ a < 2147483648) (hb : -2147483648 ≤ b ∧ b < 2147483648) (hdg : decode cc pc = .ok (.if_icmp .ge off, 3)) (ht : (pc : Int) + off = (tgt : Int)) (kt : b ≤ a → W p l e R s m args below meth c H locs cells slots Q (F0 m tgt ls rest)) (kf : ¬ (b ≤ a) → W p l e R s m args below meth c H locs cells slots Q (F0 m (pc + 3) ls rest)) : W p l e R s m args below meth c H locs cells slots Q (F0 m pc ls (.int (iI b) :: .int (iI a) :: rest)) := lv_icmp_ge X.1 X.2.1 hdg ht (fun h => kt ((iI_le hb ha).mp h)) (fun h => kf (fun q => h ((iI_le hb ha).mpr q)))
theorem rz_ge (X : CallFix p m c cc nL s args TB own) {a off : Int} {tgt : Nat} (ha : -2147483648 ≤ a ∧ a < 2147483648) (hdg : decode cc pc = .ok (.ifCond .ge off, 3)) (ht : (pc : Int) + off = (tgt : Int)) (kt : 0 ≤ a → W p l e R s m args below meth c H locs cells slots Q (F0 m tgt ls rest)) (kf : ¬ (0 ≤ a) → W p l e R s m args below meth c H locs cells slots Q (F0 m (pc + 3) ls rest)) : W p l e R s m args below meth c H locs cells slots Q (F0 m pc ls (.int (iI a) :: rest)) := lv_if_ge X.1 X.2.1 hdg ht (fun h => kt ((iI_le (by omega) ha).mp h)) (fun h => kf (fun q => h ((iI_le (by omega) ha).mpr q)))
theorem rj_gt (X : CallFix p m c cc nL s args TB own) {a b off : Int} {tgt : Nat} (ha : -2147483648 ≤ a ∧ a < 2147483648) (hb : -2147483648 ≤ b ∧ b < 2147483648) (hdg : decode cc pc = .ok (.if_icmp .gt off, 3)) (ht : (pc : Int) + off = (tgt : Int)) (kt : b < a → W p l e R s m args below meth c H locs cells slots Q (F0 m tgt ls rest)) (kf : ¬ (b < a) → W p l e R s m args below meth c H locs cells slots Q (F0 m (pc + 3) ls rest)) : W p l e R s m args below meth c H locs cells slots Q (F0 m pc ls (.int (iI b) :: .int (iI a) :: rest)) := lv_icmp_gt X.1 X.2.1 hdg ht (fun h => kt ((iI_lt hb ha).mp h)) (fun h => kf (fun q => h ((iI_lt hb ha).mpr q)))
theorem rz_gt (X : CallFix p m c cc nL s args TB own) {a off : Int} {tgt : Nat} (ha : -2147483648 ≤ a ∧ a < 2147483648) (hdg : decode cc pc = .ok (.ifCond .gt off, 3)) (ht : (pc : Int) + off = (tgt : Int)) (kt : 0 < a → W p l e R s m args below meth c H locs cells slots Q (F0 m tgt ls rest)) (kf : ¬ (0 < a) → W p l e R s m args below meth c H locs cells slots Q (F0 m (pc + 3) ls rest)) : W p l e R s m args below meth c H locs cells slots Q (F0 m pc ls (.int (iI a) :: rest)) := lv_if_gt X.1 X.2.1 hdg ht (fun h => kt ((iI_lt (by omega) ha).mp h)) (fun h => kf (fun q => h ((iI_lt (by omega) ha).mpr q)))
theorem rj_le (X : CallFix p m c cc nL s args TB own) {a b off : Int} {tgt : Nat} (ha : -2147483648 ≤ a ∧ a < 2147483648) (hb : -2147483648 ≤ b ∧ b < 2147483648) (hdg : decode cc pc = .ok (.if_icmp .le off, 3)) (ht : (pc : Int) + off = (tgt : Int)) (kt : a ≤ b → W p l e R s m args below meth c H locs cells slots Q (F0 m tgt ls rest)) (kf : ¬ (a ≤ b) → W p l e R s m args below meth c H locs cells slots Q (F0 m (pc + 3) ls rest)) : W p l e R s m args below meth c H locs cells slots Q (F0 m pc ls (.int (iI b) :: .int (iI a) :: rest)) := lv_icmp_le X.1 X.2.1 hdg ht (fun h => kt ((iI_le ha hb).mp h)) (fun h => kf (fun q => h ((iI_le ha hb).mpr q)))
theorem rz_le (X : CallFix p m c cc nL s args TB own) {a off : Int} {tgt : Nat} (ha : -2147483648 ≤ a ∧ a < 2147483648) (hdg : decode cc pc = .ok (.ifCond .le off, 3)) (ht : (pc : Int) + off = (tgt : Int)) (kt : a ≤ 0 → W p l e R s m args below meth c H locs cells slots Q (F0 m tgt ls rest)) (kf : ¬ (a ≤ 0) → W p l e R s m args below meth c H locs cells slots Q (F0 m (pc + 3) ls rest)) : W p l e R s m args below meth c H locs cells slots Q (F0 m pc ls (.int (iI a) :: rest)) := lv_if_le X.1 X.2.1 hdg ht (fun h => kt ((iI_le ha (by omega)).mp h)) (fun h => kf (fun q => h ((iI_le ha (by omega)).mpr q)))
/-! cells -/
variable {K : Sd} {S : St} {H0 : Heap} {a : Nat}
theorem gI (X : CallFix p m c cc nL s args TB own) (I : In K s H0 H locs S) {C : String} {T : u_T} {N ci index : Nat} {fs : List Value} {v : Value} (q0 : Nat) (he : (K.2.2.1 S)[q0]? = some (a, .inr (ci, fs))) (hc : vwCl[ci]? = some (C, T, N)) (hin : ∀ w ∈ u_ws C T N, w ∈ TB) (k : Nat) (hk : k < N) (hlink : Cond.fieldLink own index (T k).1 (T k).2.1 (T k).2.2.1 ∈ TB) (hv : fs[k]? = some v) (hdg : decode cc pc = .ok (.getfield index, 3))
    (kk : W p l e R s m args below meth c H locs cells slots Q (F0 m (pc + 3) ls (v :: rest))) : W p l e R s m args below meth c H locs cells slots Q (F0 m pc ls (.ref a :: rest)) :=
  va_get (ref := (T k).1) X.1 X.2.1 X.2.2.2.2 hin X.2.2.2.1 I.1 I.2.1 q0 he hc k hk (X.2.2.2.2 _ hlink) (fun _ h => h) hv hdg kk
theorem pI (X : CallFix p m c cc nL s args TB own) (I : In K s H0 H locs S) {S1 : St} {C : String} {T : u_T} {N ci index : Nat} {fs : List Value} {v : Int} (q0 : Nat) (he : (K.2.2.1 S)[q0]? = some (a, .inr (ci, fs))) (hc : vwCl[ci]? = some (C, T, N)) (hin : ∀ w ∈ u_ws C T N, w ∈ TB) (ty0 : Nat → FieldType) (hty : ∀ k, k < N → parseFieldDescriptor (T k).2.2.1 = some (ty0 k)) (hnm : ∀ a, a < N → ∀ b, b < N → a ≠ b → (T a).2.1 ≠ (T b).2.1) (k : Nat) (hk : k < N) (hlink : Cond.fieldLink own index (T k).1 (T k).2.1 (T k).2.2.1 ∈ TB) (hfin : (T k).2.2.2 = false) (hd : parseFieldDescriptor (T k).2.2.1 = some .int) (hl : k < fs.length)
    (hset : (K.2.2.1 S).set q0 (a, .inr (ci, fs.set k (.int (iI v)))) = K.2.2.1 S1) (hdg : decode cc pc = .ok (.putfield index, 3))
    (kk : ∀ (H1 : Heap) (locs1 : List Loc), In K s H0 H1 locs1 S1 → W p l e R s m args below meth c H1 locs1 cells slots Q (F0 m (pc + 3) ls rest)) : W p l e R s m args below meth c H locs cells slots Q (F0 m pc ls (.int (iI v) :: .ref a :: rest)) :=
  va_put (ref := (T k).1) X.1 X.2.1 X.2.2.2.2 hin ty0 hty hnm X.2.2.2.1 I.1 I.2.1 I.2.2.1 I.2.2.2.1 q0 he hc k hk (X.2.2.2.2 _ hlink) (fun _ h => h) hfin hd rfl rfl hl hdg (fun H1 locs1 hP hD hS => kk H1 locs1 ⟨I.1, by rw [← hset]; exact hP, by rw [← hset]; exact hD, hS, I.2.2.2.2⟩)
theorem aldI (X : CallFix p m c cc nL s args TB own) (I : In K s H0 H locs S) {z : Int} {f : Int → Int} {n : Nat} {cA : ClassId} (q0 t0 : Nat) (ha : (K.2.2.1 S)[q0]? = some (a, .inl (cA, n, .inl (fun j : Nat => iI (f j))))) (ht : K.2.1[t0]? = some (cA, .int)) (h0 : 0 ≤ z ∧ z < n) (hn : n < 2147483648) (hdg : decode cc pc = .ok (.iaload, 1))
    (kk : W p l e R s m args below meth c H locs cells slots Q (F0 m (pc + 1) ls (.int (iI (f z)) :: rest))) : W p l e R s m args below meth c H locs cells slots Q (F0 m pc ls (.int (iI z) :: .ref a :: rest)) := by
  refine va_iald X.1 X.2.1 I.1 I.2.1 q0 t0 ha ht (iI_in h0.1 h0.2 hn) hdg ?_
  rw [show (((iI z).toNatClampNeg : Nat) : Int) = z from iI_cl h0.1 (by omega)]; exact kk
theorem aldC (X : CallFix p m c cc nL s args TB own) (I : In K s H0 H locs S) {z : Int} {f : Int → Int} {n : Nat} {cA : ClassId} (q0 t0 : Nat) (ha : (K.2.2.1 S)[q0]? = some (a, .inl (cA, n, .inl (fun j : Nat => iI (f j))))) (ht : K.2.1[t0]? = some (cA, .char)) (h0 : 0 ≤ z ∧ z < n) (hn : n < 2147483648) (hdg : decode cc pc = .ok (.caload, 1))
    (kk : W p l e R s m args below meth c H locs cells slots Q (F0 m (pc + 1) ls (.int (iI (f z)) :: rest))) : W p l e R s m args below meth c H locs cells slots Q (F0 m pc ls (.int (iI z) :: .ref a :: rest)) := by
  refine va_cald X.1 X.2.1 I.1 I.2.1 q0 t0 ha ht (iI_in h0.1 h0.2 hn) hdg ?_
  rw [show (((iI z).toNatClampNeg : Nat) : Int) = z from iI_cl h0.1 (by omega)]; exact kk
theorem aldL (X : CallFix p m c cc nL s args TB own) (I : In K s H0 H locs S) {z : Int} {f : Int → Int} {n : Nat} {cA : ClassId} (q0 t0 : Nat) (ha : (K.2.2.1 S)[q0]? = some (a, .inl (cA, n, .inr (.inl (fun j : Nat => lI (f j)))))) (ht : K.2.1[t0]? = some (cA, .long)) (h0 : 0 ≤ z ∧ z < n) (hn : n < 2147483648) (hdg : decode cc pc = .ok (.laload, 1))
    (kk : W p l e R s m args below meth c H locs cells slots Q (F0 m (pc + 1) ls (.long (lI (f z)) :: rest))) : W p l e R s m args below meth c H locs cells slots Q (F0 m pc ls (.int (iI z) :: .ref a :: rest)) := by
  refine va_lald X.1 X.2.1 I.1 I.2.1 q0 t0 ha ht (iI_in h0.1 h0.2 hn) hdg ?_
  rw [show (((iI z).toNatClampNeg : Nat) : Int) = z from iI_cl h0.1 (by omega)]; exact kk
theorem aldR (X : CallFix p m c cc nL s args TB own) (I : In K s H0 H locs S) {z : Int} {f : Nat → Option Nat} {n r : Nat} {C : String} {cA : ClassId} (q0 t0 : Nat) (ha : (K.2.2.1 S)[q0]? = some (a, .inl (cA, n, .inr (.inr (.inr (.inr f)))))) (ht : K.2.1[t0]? = some (cA, .object C)) (h0 : 0 ≤ z ∧ z < n) (hn : n < 2147483648) (hr : f z.toNat = some r) (hdg : decode cc pc = .ok (.aaload, 1))
    (kk : W p l e R s m args below meth c H locs cells slots Q (F0 m (pc + 1) ls (.ref r :: rest))) : W p l e R s m args below meth c H locs cells slots Q (F0 m pc ls (.int (iI z) :: .ref a :: rest)) := by
  refine va_aldq X.1 X.2.1 I.1 I.2.1 q0 t0 ha ht (iI_in h0.1 h0.2 hn) hdg ?_
  have e := iI_cl h0.1 (show z < 2147483648 by omega)
  rw [show (iI z).toNatClampNeg = z.toNat by omega, hr]; exact kk
theorem aldA (X : CallFix p m c cc nL s args TB own) (I : In K s H0 H locs S) {z : Int} {f : Nat → Option Nat} {n r : Nat} {cA : ClassId} (q0 t0 : Nat) (ha : (K.2.2.1 S)[q0]? = some (a, .inl (cA, n, .inr (.inr (.inr (.inr f)))))) (ht : K.2.1[t0]? = some (cA, .array .int)) (h0 : 0 ≤ z ∧ z < n) (hn : n < 2147483648) (hr : f z.toNat = some r) (hdg : decode cc pc = .ok (.aaload, 1))
    (kk : W p l e R s m args below meth c H locs cells slots Q (F0 m (pc + 1) ls (.ref r :: rest))) : W p l e R s m args below meth c H locs cells slots Q (F0 m pc ls (.int (iI z) :: .ref a :: rest)) := by
  have hin := iI_in h0.1 h0.2 hn
  have hlt : (iI z).toNatClampNeg < n := Nat.not_le.mp fun q => hin (Or.inr q)
  have e := iI_cl h0.1 (show z < 2147483648 by omega)
  refine W.aald (v := .ref r) (ty := .array .int) X.1 X.2.1 (I.2.1 q0 _ ha) ((I.1.2 t0 _ ht).1 n (fun j => va_rf (f j))) rfl (fun q => by cases q) (by show ¬ (iI z < 0 ∨ (arrV _ _ _).slots.size ≤ _); rw [arrV_size]; exact hin) (by show (arrV _ _ _).slots[_]? = _; rw [arrV_read _ _ hlt, show (iI z).toNatClampNeg = z.toNat by omega, hr]; rfl) rfl rfl hdg kk
theorem astI (X : CallFix p m c cc nL s args TB own) (I : In K s H0 H locs S) {S1 : St} {z v : Int} {f : Nat → Int → Int} {k : Nat} {n : Nat} {cA : ClassId} (q0 t0 : Nat) (ha : (K.2.2.1 S)[q0]? = some (a, .inl (cA, n, .inl (fun j : Nat => iI (f k j))))) (ht : K.2.1[t0]? = some (cA, .int)) (h0 : 0 ≤ z ∧ z < n) (hn : n < 2147483648)
    (hset : (K.2.2.1 S).set q0 (a, .inl (cA, n, .inl (fun j : Nat => iI (ua f k z v k j)))) = K.2.2.1 S1) (hdg : decode cc pc = .ok (.iastore, 1))
    (kk : ∀ (H1 : Heap) (locs1 : List Loc), In K s H0 H1 locs1 S1 → W p l e R s m args below meth c H1 locs1 cells slots Q (F0 m (pc + 1) ls rest)) : W p l e R s m args below meth c H locs cells slots Q (F0 m pc ls (.int (iI v) :: .int (iI z) :: .ref a :: rest)) := by
  refine va_iast X.1 X.2.1 I.1 I.2.1 I.2.2.1 I.2.2.2.1 q0 t0 ha ht (iI_in h0.1 h0.2 hn) hdg (fun H1 locs1 hP hD hS => ?_)
  rw [upd_ua h0.1 (by omega), hset] at hP hD
  exact kk H1 locs1 ⟨I.1, hP, hD, hS, I.2.2.2.2⟩
theorem astC (X : CallFix p m c cc nL s args TB own) (I : In K s H0 H locs S) {S1 : St} {z v : Int} {f : Nat → Int → Int} {k : Nat} {n : Nat} {cA : ClassId} (q0 t0 : Nat) (ha : (K.2.2.1 S)[q0]? = some (a, .inl (cA, n, .inl (fun j : Nat => iI (f k j))))) (ht : K.2.1[t0]? = some (cA, .char)) (h0 : 0 ≤ z ∧ z < n) (hn : n < 2147483648) (hv : 0 ≤ v ∧ v < 65536)
    (hset : (K.2.2.1 S).set q0 (a, .inl (cA, n, .inl (fun j : Nat => iI (ua f k z v k j)))) = K.2.2.1 S1) (hdg : decode cc pc = .ok (.castore, 1))
    (kk : ∀ (H1 : Heap) (locs1 : List Loc), In K s H0 H1 locs1 S1 → W p l e R s m args below meth c H1 locs1 cells slots Q (F0 m (pc + 1) ls rest)) : W p l e R s m args below meth c H locs cells slots Q (F0 m pc ls (.int (iI v) :: .int (iI z) :: .ref a :: rest)) := by
  refine va_cast X.1 X.2.1 I.1 I.2.1 I.2.2.1 I.2.2.2.1 q0 t0 ha ht (iI_in h0.1 h0.2 hn) hdg (fun H1 locs1 hP hD hS => ?_)
  rw [(iI_char hv.1 hv.2).2.2.1, upd_ua h0.1 (by omega), hset] at hP hD
  exact kk H1 locs1 ⟨I.1, hP, hD, hS, I.2.2.2.2⟩
theorem astL (X : CallFix p m c cc nL s args TB own) (I : In K s H0 H locs S) {S1 : St} {z v : Int} {f : Nat → Int → Int} {k : Nat} {n : Nat} {cA : ClassId} (q0 t0 : Nat) (ha : (K.2.2.1 S)[q0]? = some (a, .inl (cA, n, .inr (.inl (fun j : Nat => lI (f k j)))))) (ht : K.2.1[t0]? = some (cA, .long)) (h0 : 0 ≤ z ∧ z < n) (hn : n < 2147483648)
    (hset : (K.2.2.1 S).set q0 (a, .inl (cA, n, .inr (.inl (fun j : Nat => lI (ua f k z v k j))))) = K.2.2.1 S1) (hdg : decode cc pc = .ok (.lastore, 1))
    (kk : ∀ (H1 : Heap) (locs1 : List Loc), In K s H0 H1 locs1 S1 → W p l e R s m args below meth c H1 locs1 cells slots Q (F0 m (pc + 1) ls rest)) : W p l e R s m args below meth c H locs cells slots Q (F0 m pc ls (.long (lI v) :: .int (iI z) :: .ref a :: rest)) := by
  refine va_last X.1 X.2.1 I.1 I.2.1 I.2.2.1 I.2.2.2.1 q0 t0 ha ht (iI_in h0.1 h0.2 hn) hdg (fun H1 locs1 hP hD hS => ?_)
  rw [updL_ua h0.1 (by omega), hset] at hP hD
  exact kk H1 locs1 ⟨I.1, hP, hD, hS, I.2.2.2.2⟩
/-! ends -/
theorem rt_i {post : Int → St → Prop} {v : Int} {ret : FieldType} (X : CallFix p m c cc nL s args TB own) (hr : meth.sig.returnType = some ret) (hlk : meth.locks = false) (I : In K s s.heap H locs S) (hn : narrow ret (.int (iI v)) = .int (iI v)) (hq : post v S) (hdg : decode cc pc = .ok (.ireturn, 1)) : W p l e R s m args below meth c H locs cells slots (MQ below (QI K post) args s cells slots K.2.2.2) (F0 m pc ls [.int (iI v)]) :=
  W.zret (v := iI v) X.1 X.2.1 hr hn (fun t ht hW => ⟨⟨iI v, S, rfl, ⟨v, rfl, hq⟩, I.wc ht hW⟩, I.2.2.2.1.F ht⟩) I.2.2.2.1.2.2 hdg hlk
theorem rt_l {post : Int → St → Prop} {v : Int} (X : CallFix p m c cc nL s args TB own) (hr : meth.sig.returnType = some .long) (hlk : meth.locks = false) (I : In K s s.heap H locs S) (hq : post v S) (hdg : decode cc pc = .ok (.lreturn, 1)) : W p l e R s m args below meth c H locs cells slots (MQ below (QL K post) args s cells slots K.2.2.2) (F0 m pc ls [.long (lI v)]) :=
  W.lret (v := lI v) X.1 X.2.1 hr (fun t ht hW => ⟨⟨lI v, S, rfl, ⟨v, rfl, hq⟩, I.wc ht hW⟩, I.2.2.2.1.F ht⟩) I.2.2.2.1.2.2 hdg hlk
theorem rt_v {post : St → Prop} (X : CallFix p m c cc nL s args TB own) (hr : meth.sig.returnType = none) (hlk : meth.locks = false) (I : In K s s.heap H locs S) (hq : post S) (hdg : decode cc pc = .ok (.return_, 1)) : W p l e R s m args below meth c H locs cells slots (MQ below (QV K post) args s cells slots K.2.2.2) (F0 m pc ls []) :=
  W.vret X.1 X.2.1 hr (fun t ht hW => ⟨⟨S, rfl, hq, I.wc ht hW⟩, I.2.2.2.1.F ht⟩) I.2.2.2.1.2.2 hdg hlk
/-! calls -/
theorem In.call {t : State} {H1 : Heap} {locs1 : List Loc} {S1 : St} (I : In K s H0 H locs S) (hB : WC K S1 t) (ht : t.heap = H1) (hS : va_S K.2.2.2 H0 H1 locs1) : In K s H0 H1 locs1 S1 := ⟨I.1, by rw [← ht]; exact hB.2.1, hB.2.2.1, hS, I.2.2.2.2⟩
variable {y : MethodName} {bytes : ByteArray} {maxL index n : Nat} {rm : Room} {b : Nat} {As : List Value} {st : List Value}
theorem PreS.of (I : In K s H0 H locs S) : PreS s H (va_Pc As (WC K S)) As := ⟨WC.blind, fun U hU hW => ⟨rfl, I.wc hU hW⟩⟩
theorem PreV.of (I : In K s H0 H locs S) {q0 ci N : Nat} {C : String} {T : u_T} {fs : List Value} (he : (K.2.2.1 S)[q0]? = some (b, .inr (ci, fs))) (hc : vwCl[ci]? = some (C, T, N)) : PreV s H C b (va_Pc (.ref b :: As) (WC K S)) As := ⟨WC.blind, va_recv I.1 I.2.1 hc he, fun U hU hW => ⟨rfl, I.wc hU hW⟩⟩
/-- what a call asks of its callee's name and of the room -/
abbrev cOk (y : MethodName) (n maxL : Nat) (rm R : Room) : Prop := (y.cls ≠ "java/lang/invoke/MethodHandle" ∧ y.cls ≠ "java/lang/invoke/VarHandle" ∧ (parseMethodDescriptor y.desc).map (fun d => d.parameters.length) = some n) ∧ (rm.frames + 1 ≤ R.frames ∧ 8 + (maxL + 11) + rm.locals ≤ R.locals) ∧ rm.cells = 0 ∧ rm.slots = 0
theorem runV {Pc : Array Value → State → Prop} {Qc : Array Value → State → Outcome → State → Prop} {free : Addr → Prop} {ret : Option FieldType} (X : CallFix p m c cc nL s args TB own) (hM : Met l y (.code y bytes maxL ret :: TB) rm Pc Qc 0 0 free) (hw : GoodIn TB (wsV own index y.cls y (.code y bytes maxL ret :: TB))) (ho : cOk y n maxL rm R) (hp : PreV s H y.cls b Pc As) (hn : As.length = n) (hl : ls.size = nL) (hst : st = As.reverse ++ .ref b :: rest) (hW : (rest.map fun v => v.category).sum ≤ 8) (hdg : decode cc pc = .ok (.invokevirtual index, 3)) (hf : cells ≤ R.cells ∧ slots ≤ R.slots) :
    va_Run p l e R s m args below meth c H locs cells slots 0 0 (F0 m pc ls st) rest (Qc (Value.ref b :: As).toArray) free :=
  va_runV X hM (cwV n X.2.2.2.2 hw rfl ho.2.2.1 ho.2.2.2 ⟨rfl, ho.1⟩ ho.2.1) hp rfl hn hl hst (lv_room hW) hdg hf
theorem runS {Pc : Array Value → State → Prop} {Qc : Array Value → State → Outcome → State → Prop} {free : Addr → Prop} {ret : Option FieldType} (X : CallFix p m c cc nL s args TB own) (hM : Met l y (.code y bytes maxL ret :: TB) rm Pc Qc 0 0 free) (hw : GoodIn TB (.code y bytes maxL ret :: TB)) (hlk : Cond.methodLink own index y ∈ TB) (hst2 : Cond.static y ∈ TB) (hini : Cond.initialized y.cls ∈ TB) (ho : cOk y n maxL rm R) (hp : PreS s H Pc As) (hn : As.length = n) (hl : ls.size = nL) (hst : st = As.reverse ++ rest) (hW : (rest.map fun v => v.category).sum ≤ 8) (hdg : decode cc pc = .ok (.invokestatic index, 3)) (hf : cells ≤ R.cells ∧ slots ≤ R.slots) :
    va_Run p l e R s m args below meth c H locs cells slots 0 0 (F0 m pc ls st) rest (Qc As.toArray) free :=
  va_runS X hM ⟨callB_of n X.2.2.2.2 hw rfl ho.2.2.1 ho.2.2.2 (X.2.2.2.2 _ hini) (X.2.2.2.2 _ hlk) ho.1 ho.2.1, X.2.2.2.2 _ hst2⟩ hp rfl hn hl hst (lv_room hW) hdg hf
theorem runSN {Pc : Array Value → State → Prop} {Qc : Array Value → State → Outcome → State → Prop} {free : Addr → Prop} {ret : Option FieldType} {host : String} (X : CallFix p m c cc nL s args TB own) (hM : Met l y (.code y bytes maxL ret :: TB) rm Pc Qc 0 0 free) (hw : GoodIn TB (.code y bytes maxL ret :: TB)) (hlk : va_Nw (.methodLinkNest own index y host) s) (hst2 : Cond.static y ∈ TB) (hini : Cond.initialized y.cls ∈ TB) (ho : cOk y n maxL rm R) (hp : PreS s H Pc As) (hn : As.length = n) (hl : ls.size = nL) (hst : st = As.reverse ++ rest) (hW : (rest.map fun v => v.category).sum ≤ 8) (hdg : decode cc pc = .ok (.invokestatic index, 3)) (hf : cells ≤ R.cells ∧ slots ≤ R.slots) :
    va_Run p l e R s m args below meth c H locs cells slots 0 0 (F0 m pc ls st) rest (Qc As.toArray) free :=
  va_runSN X hM ⟨va_cnB n X.2.2.2.2 hw rfl ho.2.2.1 ho.2.2.2 hlk (X.2.2.2.2 _ hini) ho.1 ho.2.1, X.2.2.2.2 _ hst2, trivial⟩ hp rfl hn hl hst (lv_room hW) hdg hf
theorem cl_i {post : Int → St → Prop} {aa : Array Value} (I : In K s H0 H locs S) (hr : va_Run p l e R s m args below meth c H locs cells slots 0 0 (F0 m pc ls st) rest (QI K post aa) K.2.2.2) (kk : ∀ (z : Int) (S1 : St) (H1 : Heap) (locs1 : List Loc), post z S1 → In K s H0 H1 locs1 S1 → W p l e R s m args below meth c H1 locs1 cells slots Q (F0 m (pc + 3) ls (.int (iI z) :: rest))) : W p l e R s m args below meth c H locs cells slots Q (F0 m pc ls st) :=
  va_calli hr I.2.2.2.1 (fun _ _ h => h) (fun _ h => h) (fun r u t H1 locs1 ht _ hp hB _ _ hS => by
    obtain ⟨z, rfl, hq⟩ := hp
    exact kk z u H1 locs1 hq (I.call hB ht hS))
theorem cl_l {post : Int → St → Prop} {aa : Array Value} (I : In K s H0 H locs S) (hr : va_Run p l e R s m args below meth c H locs cells slots 0 0 (F0 m pc ls st) rest (QL K post aa) K.2.2.2) (kk : ∀ (z : Int) (S1 : St) (H1 : Heap) (locs1 : List Loc), post z S1 → In K s H0 H1 locs1 S1 → W p l e R s m args below meth c H1 locs1 cells slots Q (F0 m (pc + 3) ls (.long (lI z) :: rest))) : W p l e R s m args below meth c H locs cells slots Q (F0 m pc ls st) :=
  va_calll hr I.2.2.2.1 (fun _ _ h => h) (fun _ h => h) (fun r u t H1 locs1 ht _ hp hB _ _ hS => by
    obtain ⟨z, rfl, hq⟩ := hp
    exact kk z u H1 locs1 hq (I.call hB ht hS))
theorem cl_v {post : St → Prop} {aa : Array Value} (I : In K s H0 H locs S) (hr : va_Run p l e R s m args below meth c H locs cells slots 0 0 (F0 m pc ls st) rest (QV K post aa) K.2.2.2) (kk : ∀ (S1 : St) (H1 : Heap) (locs1 : List Loc), post S1 → In K s H0 H1 locs1 S1 → W p l e R s m args below meth c H1 locs1 cells slots Q (F0 m (pc + 3) ls rest)) : W p l e R s m args below meth c H locs cells slots Q (F0 m pc ls st) :=
  va_callv hr I.2.2.2.1 (fun _ _ h => h) (fun _ h => h) (fun u t H1 locs1 ht _ hp hB _ _ hS => kk u H1 locs1 hp (I.call hB ht hS))
end ROWS
end
section
set_option maxRecDepth 100000 in
theorem tb_0 : (Cond.selects "NameSeeker" (⟨"NameSeeker", "layText", "()V"⟩ : MethodName) (⟨"NameSeeker", "layText", "()V"⟩ : MethodName)) ∈ TB := tbI 0 rfl rfl
set_option maxRecDepth 100000 in
theorem tb_1 : (Cond.selects "NameSeeker" (⟨"NameSeeker", "readItem", "(I)V"⟩ : MethodName) (⟨"NameSeeker", "readItem", "(I)V"⟩ : MethodName)) ∈ TB := tbI 1 rfl rfl
set_option maxRecDepth 100000 in
theorem tb_2 : (Cond.selects "NameSeeker$Name" (⟨"NameSeeker$Name", "wouldBegin", "(C)Z"⟩ : MethodName) (⟨"NameSeeker$Name", "wouldBegin", "(C)Z"⟩ : MethodName)) ∈ TB := tbI 2 rfl rfl
set_option maxRecDepth 100000 in
theorem tb_3 : (Cond.selects "NameSeeker$Text" (⟨"NameSeeker$Text", "behindName", "(I)I"⟩ : MethodName) (⟨"NameSeeker$Text", "behindName", "(I)I"⟩ : MethodName)) ∈ TB := tbI 3 rfl rfl
set_option maxRecDepth 100000 in
theorem tb_4 : (Cond.selects "NameSeeker$Text" (⟨"NameSeeker$Text", "isFigure", "(II)Z"⟩ : MethodName) (⟨"NameSeeker$Text", "isFigure", "(II)Z"⟩ : MethodName)) ∈ TB := tbI 4 rfl rfl
set_option maxRecDepth 100000 in
theorem tb_5 : (Cond.selects "NameSeeker$Text" (⟨"NameSeeker$Text", "behindWorths", "(I)I"⟩ : MethodName) (⟨"NameSeeker$Text", "behindWorths", "(I)I"⟩ : MethodName)) ∈ TB := tbI 5 rfl rfl
set_option maxRecDepth 100000 in
theorem tb_6 : (Cond.selects "NameSeeker" (⟨"NameSeeker", "seekScore", "(LNameSeeker$Name;)I"⟩ : MethodName) (⟨"NameSeeker", "seekScore", "(LNameSeeker$Name;)I"⟩ : MethodName)) ∈ TB := tbI 6 rfl rfl
set_option maxRecDepth 100000 in
theorem tb_7 : (Cond.selects "NameSeeker$Laying" (⟨"NameSeeker$Laying", "workOutLetter", "(LNameSeeker$Name;LNameSeeker$Word;ILNameSeeker$Scales;)V"⟩ : MethodName) (⟨"NameSeeker$Laying", "workOutLetter", "(LNameSeeker$Name;LNameSeeker$Word;ILNameSeeker$Scales;)V"⟩ : MethodName)) ∈ TB := tbI 7 rfl rfl
set_option maxRecDepth 100000 in
theorem tb_8 : (Cond.selects "NameSeeker$Laying" (⟨"NameSeeker$Laying", "workOutNext", "(LNameSeeker$Name;IILNameSeeker$Scales;)V"⟩ : MethodName) (⟨"NameSeeker$Laying", "workOutNext", "(LNameSeeker$Name;IILNameSeeker$Scales;)V"⟩ : MethodName)) ∈ TB := tbI 8 rfl rfl
set_option maxRecDepth 100000 in
theorem tb_9 : (Cond.selects "NameSeeker" (⟨"NameSeeker", "seekScores", "()V"⟩ : MethodName) (⟨"NameSeeker", "seekScores", "()V"⟩ : MethodName)) ∈ TB := tbI 9 rfl rfl
set_option maxRecDepth 100000 in
theorem tb_10 : (Cond.selects "NameSeeker$Ranking" (⟨"NameSeeker$Ranking", "insert", "(LNameSeeker$Lot;I)V"⟩ : MethodName) (⟨"NameSeeker$Ranking", "insert", "(LNameSeeker$Lot;I)V"⟩ : MethodName)) ∈ TB := tbI 10 rfl rfl
set_option maxRecDepth 100000 in
theorem tb_11 : (Cond.selects "NameSeeker$Ranking" (⟨"NameSeeker$Ranking", "isAhead", "(LNameSeeker$Lot;II)Z"⟩ : MethodName) (⟨"NameSeeker$Ranking", "isAhead", "(LNameSeeker$Lot;II)Z"⟩ : MethodName)) ∈ TB := tbI 11 rfl rfl
set_option maxRecDepth 100000 in
theorem tb_12 : (Cond.selects "NameSeeker" (⟨"NameSeeker", "isFirstBy", "(III)Z"⟩ : MethodName) (⟨"NameSeeker", "isFirstBy", "(III)Z"⟩ : MethodName)) ∈ TB := tbI 12 rfl rfl
set_option maxRecDepth 100000 in
theorem tb_13 : (Cond.selects "NameSeekerModel" (⟨"NameSeekerModel", "reads", "()I"⟩ : MethodName) (⟨"NameSeekerModel", "reads", "()I"⟩ : MethodName)) ∈ TB := tbI 13 rfl rfl
set_option maxRecDepth 100000 in
theorem tb_14 : (Cond.selects "NameSeekerModel" (⟨"NameSeekerModel", "readsName", "(I)I"⟩ : MethodName) (⟨"NameSeekerModel", "readsName", "(I)I"⟩ : MethodName)) ∈ TB := tbI 14 rfl rfl
set_option maxRecDepth 100000 in
theorem tb_15 : (Cond.selects "NameSeekerModel" (⟨"NameSeekerModel", "isFigure", "(II)Z"⟩ : MethodName) (⟨"NameSeekerModel", "isFigure", "(II)Z"⟩ : MethodName)) ∈ TB := tbI 15 rfl rfl
set_option maxRecDepth 100000 in
theorem tb_16 : (Cond.selects "NameSeekerModel" (⟨"NameSeekerModel", "letterAt", "(I)I"⟩ : MethodName) (⟨"NameSeekerModel", "letterAt", "(I)I"⟩ : MethodName)) ∈ TB := tbI 16 rfl rfl
set_option maxRecDepth 100000 in
theorem tb_17 : (Cond.selects "NameSeekerModel" (⟨"NameSeekerModel", "readsWorths", "(I)I"⟩ : MethodName) (⟨"NameSeekerModel", "readsWorths", "(I)I"⟩ : MethodName)) ∈ TB := tbI 17 rfl rfl
set_option maxRecDepth 100000 in
theorem tb_18 : (Cond.selects "NameSeekerModel" (⟨"NameSeekerModel", "isName", "(I)Z"⟩ : MethodName) (⟨"NameSeekerModel", "isName", "(I)Z"⟩ : MethodName)) ∈ TB := tbI 18 rfl rfl
set_option maxRecDepth 100000 in
theorem tb_19 : (Cond.selects "NameSeekerModel" (⟨"NameSeekerModel", "isBeginning", "(II)Z"⟩ : MethodName) (⟨"NameSeekerModel", "isBeginning", "(II)Z"⟩ : MethodName)) ∈ TB := tbI 19 rfl rfl
set_option maxRecDepth 100000 in
theorem tb_20 : (Cond.selects "NameSeekerModel" (⟨"NameSeekerModel", "sought", "(I)I"⟩ : MethodName) (⟨"NameSeekerModel", "sought", "(I)I"⟩ : MethodName)) ∈ TB := tbI 20 rfl rfl
set_option maxRecDepth 100000 in
theorem tb_21 : (Cond.selects "NameSeekerModel" (⟨"NameSeekerModel", "code", "()J"⟩ : MethodName) (⟨"NameSeekerModel", "code", "()J"⟩ : MethodName)) ∈ TB := tbI 21 rfl rfl
set_option maxRecDepth 100000 in
theorem tb_22 : (Cond.selects "NameSeekerModel" (⟨"NameSeekerModel", "triesWord", "()V"⟩ : MethodName) (⟨"NameSeekerModel", "triesWord", "()V"⟩ : MethodName)) ∈ TB := tbI 22 rfl rfl
set_option maxRecDepth 100000 in
theorem tb_23 : (Cond.selects "NameSeekerModel" (⟨"NameSeekerModel", "waysOf", "(I)I"⟩ : MethodName) (⟨"NameSeekerModel", "waysOf", "(I)I"⟩ : MethodName)) ∈ TB := tbI 23 rfl rfl
set_option maxRecDepth 100000 in
theorem tb_24 : (Cond.selects "NameSeekerModel" (⟨"NameSeekerModel", "isWay", "(I)Z"⟩ : MethodName) (⟨"NameSeekerModel", "isWay", "(I)Z"⟩ : MethodName)) ∈ TB := tbI 24 rfl rfl
set_option maxRecDepth 100000 in
theorem tb_25 : (Cond.selects "NameSeekerModel" (⟨"NameSeekerModel", "isAlike", "(III)Z"⟩ : MethodName) (⟨"NameSeekerModel", "isAlike", "(III)Z"⟩ : MethodName)) ∈ TB := tbI 25 rfl rfl
set_option maxRecDepth 100000 in
theorem tb_26 : (Cond.selects "NameSeekerModel" (⟨"NameSeekerModel", "worthOfWay", "(I)I"⟩ : MethodName) (⟨"NameSeekerModel", "worthOfWay", "(I)I"⟩ : MethodName)) ∈ TB := tbI 26 rfl rfl
set_option maxRecDepth 100000 in
theorem tb_27 : (Cond.selects "NameSeekerModel" (⟨"NameSeekerModel", "goesOn", "(I)Z"⟩ : MethodName) (⟨"NameSeekerModel", "goesOn", "(I)Z"⟩ : MethodName)) ∈ TB := tbI 27 rfl rfl
set_option maxRecDepth 100000 in
theorem tb_28 : (Cond.selects "NameSeekerModel" (⟨"NameSeekerModel", "passing", "(I)Z"⟩ : MethodName) (⟨"NameSeekerModel", "passing", "(I)Z"⟩ : MethodName)) ∈ TB := tbI 28 rfl rfl
set_option maxRecDepth 100000 in
theorem tb_29 : (Cond.selects "NameSeekerModel" (⟨"NameSeekerModel", "has", "(II)Z"⟩ : MethodName) (⟨"NameSeekerModel", "has", "(II)Z"⟩ : MethodName)) ∈ TB := tbI 29 rfl rfl
set_option maxRecDepth 100000 in
theorem tb_30 : (Cond.selects "NameSeekerModel" (⟨"NameSeekerModel", "aheadOf", "(I)I"⟩ : MethodName) (⟨"NameSeekerModel", "aheadOf", "(I)I"⟩ : MethodName)) ∈ TB := tbI 30 rfl rfl
set_option maxRecDepth 100000 in
theorem tb_31 : (Cond.selects "NameSeekerModel" (⟨"NameSeekerModel", "isAhead", "(II)Z"⟩ : MethodName) (⟨"NameSeekerModel", "isAhead", "(II)Z"⟩ : MethodName)) ∈ TB := tbI 31 rfl rfl
set_option maxRecDepth 100000 in
theorem tb_32 : (Cond.selects "NameSeekerModel" (⟨"NameSeekerModel", "isFirst", "(I)Z"⟩ : MethodName) (⟨"NameSeekerModel", "isFirst", "(I)Z"⟩ : MethodName)) ∈ TB := tbI 32 rfl rfl
set_option maxRecDepth 100000 in
theorem tb_33 : (Jvm.Cond.initialized "NameSeekerLaw") ∈ TB := tbI 33 rfl rfl
set_option maxRecDepth 100000 in
theorem tb_34 : (Jvm.Cond.initialized "NameSeeker") ∈ TB := tbI 34 rfl rfl
set_option maxRecDepth 100000 in
theorem tb_35 : (Jvm.Cond.initialized "NameSeeker$Text") ∈ TB := tbI 35 rfl rfl
set_option maxRecDepth 100000 in
theorem tb_36 : (Jvm.Cond.initialized "NameSeeker$Lot") ∈ TB := tbI 36 rfl rfl
set_option maxRecDepth 100000 in
theorem tb_37 : (Jvm.Cond.initialized "NameSeeker$Name") ∈ TB := tbI 37 rfl rfl
set_option maxRecDepth 100000 in
theorem tb_38 : (Jvm.Cond.initialized "NameSeeker$Scales") ∈ TB := tbI 38 rfl rfl
set_option maxRecDepth 100000 in
theorem tb_39 : (Jvm.Cond.initialized "NameSeeker$Word") ∈ TB := tbI 39 rfl rfl
set_option maxRecDepth 100000 in
theorem tb_40 : (Jvm.Cond.initialized "NameSeeker$Laying") ∈ TB := tbI 40 rfl rfl
set_option maxRecDepth 100000 in
theorem tb_41 : (Jvm.Cond.initialized "NameSeeker$Known") ∈ TB := tbI 41 rfl rfl
set_option maxRecDepth 100000 in
theorem tb_42 : (Jvm.Cond.initialized "NameSeeker$Asked") ∈ TB := tbI 42 rfl rfl
set_option maxRecDepth 100000 in
theorem tb_43 : (Jvm.Cond.initialized "NameSeeker$Ranking") ∈ TB := tbI 43 rfl rfl
set_option maxRecDepth 100000 in
theorem tb_48 : (Jvm.Cond.initialized "NameSeekerModel") ∈ TB := tbI 48 rfl rfl
set_option maxRecDepth 100000 in
theorem tb_51 : (Jvm.Cond.classLink "NameSeekerLaw" (7 : Nat) "NameSeeker") ∈ TB := tbI 51 rfl rfl
set_option maxRecDepth 100000 in
theorem tb_52 : (Jvm.Cond.instantiable "NameSeeker" (14 : Nat)) ∈ TB := tbI 52 rfl rfl
set_option maxRecDepth 100000 in
theorem tb_53 : (Jvm.Cond.methodLink "NameSeekerLaw" (9 : Nat) ({ cls := "NameSeeker", name := "<init>", desc := "()V" } : Jvm.MethodName)) ∈ TB := tbI 53 rfl rfl
set_option maxRecDepth 100000 in
theorem tb_54 : (Jvm.Cond.instanceMethod ({ cls := "NameSeeker", name := "<init>", desc := "()V" } : Jvm.MethodName)) ∈ TB := tbI 54 rfl rfl
set_option maxRecDepth 100000 in
theorem tb_55 : (Jvm.Cond.code ({ cls := "NameSeeker", name := "<init>", desc := "()V" } : Jvm.MethodName) prog_1_method_1_code (2 : Nat) (Option.none : Option Jvm.ClassFile.FieldType)) ∈ TB := tbI 55 rfl rfl
set_option maxRecDepth 100000 in
theorem tb_59 : (Jvm.Cond.classLink "NameSeeker" (7 : Nat) "NameSeeker$Text") ∈ TB := tbI 59 rfl rfl
set_option maxRecDepth 100000 in
theorem tb_60 : (Jvm.Cond.instantiable "NameSeeker$Text" (2 : Nat)) ∈ TB := tbI 60 rfl rfl
set_option maxRecDepth 100000 in
theorem tb_62 : (Jvm.Cond.instanceMethod ({ cls := "NameSeeker$Text", name := "<init>", desc := "()V" } : Jvm.MethodName)) ∈ TB := tbI 62 rfl rfl
set_option maxRecDepth 100000 in
theorem tb_63 : (Jvm.Cond.code ({ cls := "NameSeeker$Text", name := "<init>", desc := "()V" } : Jvm.MethodName) prog_9_method_1_code (1 : Nat) (Option.none : Option Jvm.ClassFile.FieldType)) ∈ TB := tbI 63 rfl rfl
set_option maxRecDepth 100000 in
theorem tb_65 : (Jvm.Cond.fieldLink "NameSeeker$Text" (9 : Nat) "NameSeeker$Text" "letters" "[C") ∈ TB := tbI 65 rfl rfl
set_option maxRecDepth 100000 in
theorem tb_66 : (Jvm.Cond.fieldLink "NameSeeker$Text" (15 : Nat) "NameSeeker$Text" "size" "I") ∈ TB := tbI 66 rfl rfl
set_option maxRecDepth 100000 in
theorem tb_67 : (Jvm.Cond.fieldLink "NameSeeker" (107 : Nat) "NameSeeker$Text" "size" "I") ∈ TB := tbI 67 rfl rfl
set_option maxRecDepth 100000 in
theorem tb_73 : (Jvm.Cond.arrayClass Jvm.ClassFile.FieldType.char) ∈ TB := tbI 73 rfl rfl
set_option maxRecDepth 100000 in
theorem tb_74 : (Jvm.Cond.classLink "NameSeeker" (16 : Nat) "NameSeeker$Lot") ∈ TB := tbI 74 rfl rfl
set_option maxRecDepth 100000 in
theorem tb_75 : (Jvm.Cond.instantiable "NameSeeker$Lot" (3 : Nat)) ∈ TB := tbI 75 rfl rfl
set_option maxRecDepth 100000 in
theorem tb_76 : (Jvm.Cond.methodLink "NameSeeker" (18 : Nat) ({ cls := "NameSeeker$Lot", name := "<init>", desc := "()V" } : Jvm.MethodName)) ∈ TB := tbI 76 rfl rfl
set_option maxRecDepth 100000 in
theorem tb_77 : (Jvm.Cond.instanceMethod ({ cls := "NameSeeker$Lot", name := "<init>", desc := "()V" } : Jvm.MethodName)) ∈ TB := tbI 77 rfl rfl
set_option maxRecDepth 100000 in
theorem tb_78 : (Jvm.Cond.code ({ cls := "NameSeeker$Lot", name := "<init>", desc := "()V" } : Jvm.MethodName) prog_5_method_1_code (2 : Nat) (Option.none : Option Jvm.ClassFile.FieldType)) ∈ TB := tbI 78 rfl rfl
set_option maxRecDepth 100000 in
theorem tb_80 : (Jvm.Cond.classLink "NameSeeker$Lot" (9 : Nat) "NameSeeker$Name") ∈ TB := tbI 80 rfl rfl
set_option maxRecDepth 100000 in
theorem tb_82 : (Jvm.Cond.instantiable "NameSeeker$Name" (7 : Nat)) ∈ TB := tbI 82 rfl rfl
set_option maxRecDepth 100000 in
theorem tb_84 : (Jvm.Cond.instanceMethod ({ cls := "NameSeeker$Name", name := "<init>", desc := "()V" } : Jvm.MethodName)) ∈ TB := tbI 84 rfl rfl
set_option maxRecDepth 100000 in
theorem tb_85 : (Jvm.Cond.code ({ cls := "NameSeeker$Name", name := "<init>", desc := "()V" } : Jvm.MethodName) prog_6_method_1_code (1 : Nat) (Option.none : Option Jvm.ClassFile.FieldType)) ∈ TB := tbI 85 rfl rfl
set_option maxRecDepth 100000 in
theorem tb_87 : (Jvm.Cond.fieldLink "NameSeeker$Name" (9 : Nat) "NameSeeker$Name" "signs" "[C") ∈ TB := tbI 87 rfl rfl
set_option maxRecDepth 100000 in
theorem tb_88 : (Jvm.Cond.fieldLink "NameSeeker" (141 : Nat) "NameSeeker$Name" "signs" "[C") ∈ TB := tbI 88 rfl rfl
set_option maxRecDepth 100000 in
theorem tb_89 : (Jvm.Cond.fieldLink "NameSeeker$Name" (15 : Nat) "NameSeeker$Name" "size" "I") ∈ TB := tbI 89 rfl rfl
set_option maxRecDepth 100000 in
theorem tb_90 : (Jvm.Cond.fieldLink "NameSeeker$Laying" (36 : Nat) "NameSeeker$Name" "size" "I") ∈ TB := tbI 90 rfl rfl
set_option maxRecDepth 100000 in
theorem tb_91 : (Jvm.Cond.fieldLink "NameSeeker$Ranking" (42 : Nat) "NameSeeker$Name" "size" "I") ∈ TB := tbI 91 rfl rfl
set_option maxRecDepth 100000 in
theorem tb_92 : (Jvm.Cond.fieldLink "NameSeeker" (131 : Nat) "NameSeeker$Name" "size" "I") ∈ TB := tbI 92 rfl rfl
set_option maxRecDepth 100000 in
theorem tb_93 : (Jvm.Cond.fieldLink "NameSeeker$Name" (19 : Nat) "NameSeeker$Name" "kind" "I") ∈ TB := tbI 93 rfl rfl
set_option maxRecDepth 100000 in
theorem tb_94 : (Jvm.Cond.fieldLink "NameSeeker$Scales" (30 : Nat) "NameSeeker$Name" "kind" "I") ∈ TB := tbI 94 rfl rfl
set_option maxRecDepth 100000 in
theorem tb_95 : (Jvm.Cond.fieldLink "NameSeeker" (126 : Nat) "NameSeeker$Name" "kind" "I") ∈ TB := tbI 95 rfl rfl
set_option maxRecDepth 100000 in
theorem tb_96 : (Jvm.Cond.fieldLink "NameSeeker$Name" (22 : Nat) "NameSeeker$Name" "id" "I") ∈ TB := tbI 96 rfl rfl
set_option maxRecDepth 100000 in
theorem tb_97 : (Jvm.Cond.fieldLink "NameSeeker" (132 : Nat) "NameSeeker$Name" "id" "I") ∈ TB := tbI 97 rfl rfl
set_option maxRecDepth 100000 in
theorem tb_98 : (Jvm.Cond.fieldLink "NameSeeker$Name" (25 : Nat) "NameSeeker$Name" "picked" "I") ∈ TB := tbI 98 rfl rfl
set_option maxRecDepth 100000 in
theorem tb_99 : (Jvm.Cond.fieldLink "NameSeeker$Ranking" (37 : Nat) "NameSeeker$Name" "picked" "I") ∈ TB := tbI 99 rfl rfl
set_option maxRecDepth 100000 in
theorem tb_100 : (Jvm.Cond.fieldLink "NameSeeker" (135 : Nat) "NameSeeker$Name" "picked" "I") ∈ TB := tbI 100 rfl rfl
set_option maxRecDepth 100000 in
theorem tb_101 : (Jvm.Cond.fieldLink "NameSeeker$Name" (28 : Nat) "NameSeeker$Name" "beginnings" "I") ∈ TB := tbI 101 rfl rfl
set_option maxRecDepth 100000 in
theorem tb_102 : (Jvm.Cond.fieldLink "NameSeeker$Scales" (25 : Nat) "NameSeeker$Name" "beginnings" "I") ∈ TB := tbI 102 rfl rfl
set_option maxRecDepth 100000 in
theorem tb_103 : (Jvm.Cond.fieldLink "NameSeeker" (138 : Nat) "NameSeeker$Name" "beginnings" "I") ∈ TB := tbI 103 rfl rfl
set_option maxRecDepth 100000 in
theorem tb_104 : (Jvm.Cond.fieldLink "NameSeeker$Name" (31 : Nat) "NameSeeker$Name" "letterBits" "I") ∈ TB := tbI 104 rfl rfl
set_option maxRecDepth 100000 in
theorem tb_105 : (Jvm.Cond.fieldLink "NameSeeker" (251 : Nat) "NameSeeker$Name" "letterBits" "I") ∈ TB := tbI 105 rfl rfl
set_option maxRecDepth 100000 in
theorem tb_121 : (Jvm.Cond.fieldLink "NameSeeker$Lot" (11 : Nat) "NameSeeker$Lot" "names" "[LNameSeeker$Name;") ∈ TB := tbI 121 rfl rfl
set_option maxRecDepth 100000 in
theorem tb_122 : (Jvm.Cond.fieldLink "NameSeeker$Ranking" (33 : Nat) "NameSeeker$Lot" "names" "[LNameSeeker$Name;") ∈ TB := tbI 122 rfl rfl
set_option maxRecDepth 100000 in
theorem tb_123 : (Jvm.Cond.fieldLink "NameSeeker" (122 : Nat) "NameSeeker$Lot" "names" "[LNameSeeker$Name;") ∈ TB := tbI 123 rfl rfl
set_option maxRecDepth 100000 in
theorem tb_124 : (Jvm.Cond.fieldLink "NameSeeker$Lot" (17 : Nat) "NameSeeker$Lot" "size" "I") ∈ TB := tbI 124 rfl rfl
set_option maxRecDepth 100000 in
theorem tb_125 : (Jvm.Cond.fieldLink "NameSeeker$Ranking" (22 : Nat) "NameSeeker$Lot" "size" "I") ∈ TB := tbI 125 rfl rfl
set_option maxRecDepth 100000 in
theorem tb_126 : (Jvm.Cond.fieldLink "NameSeeker" (117 : Nat) "NameSeeker$Lot" "size" "I") ∈ TB := tbI 126 rfl rfl
set_option maxRecDepth 100000 in
theorem tb_127 : (Jvm.Cond.fieldLink "NameSeeker$Lot" (21 : Nat) "NameSeeker$Lot" "laid" "I") ∈ TB := tbI 127 rfl rfl
set_option maxRecDepth 100000 in
theorem tb_128 : (Jvm.Cond.fieldLink "NameSeeker" (298 : Nat) "NameSeeker$Lot" "laid" "I") ∈ TB := tbI 128 rfl rfl
set_option maxRecDepth 100000 in
theorem tb_136 : (Jvm.Cond.classLink "NameSeeker" (23 : Nat) "NameSeeker$Scales") ∈ TB := tbI 136 rfl rfl
set_option maxRecDepth 100000 in
theorem tb_137 : (Jvm.Cond.instantiable "NameSeeker$Scales" (3 : Nat)) ∈ TB := tbI 137 rfl rfl
set_option maxRecDepth 100000 in
theorem tb_139 : (Jvm.Cond.instanceMethod ({ cls := "NameSeeker$Scales", name := "<init>", desc := "()V" } : Jvm.MethodName)) ∈ TB := tbI 139 rfl rfl
set_option maxRecDepth 100000 in
theorem tb_140 : (Jvm.Cond.code ({ cls := "NameSeeker$Scales", name := "<init>", desc := "()V" } : Jvm.MethodName) prog_8_method_1_code (1 : Nat) (Option.none : Option Jvm.ClassFile.FieldType)) ∈ TB := tbI 140 rfl rfl
set_option maxRecDepth 100000 in
theorem tb_142 : (Jvm.Cond.fieldLink "NameSeeker$Scales" (9 : Nat) "NameSeeker$Scales" "beginning" "I") ∈ TB := tbI 142 rfl rfl
set_option maxRecDepth 100000 in
theorem tb_143 : (Jvm.Cond.fieldLink "NameSeeker" (289 : Nat) "NameSeeker$Scales" "beginning" "I") ∈ TB := tbI 143 rfl rfl
set_option maxRecDepth 100000 in
theorem tb_144 : (Jvm.Cond.fieldLink "NameSeeker$Scales" (15 : Nat) "NameSeeker$Scales" "row" "I") ∈ TB := tbI 144 rfl rfl
set_option maxRecDepth 100000 in
theorem tb_145 : (Jvm.Cond.fieldLink "NameSeeker" (292 : Nat) "NameSeeker$Scales" "row" "I") ∈ TB := tbI 145 rfl rfl
set_option maxRecDepth 100000 in
theorem tb_146 : (Jvm.Cond.fieldLink "NameSeeker$Scales" (18 : Nat) "NameSeeker$Scales" "gap" "I") ∈ TB := tbI 146 rfl rfl
set_option maxRecDepth 100000 in
theorem tb_147 : (Jvm.Cond.fieldLink "NameSeeker" (295 : Nat) "NameSeeker$Scales" "gap" "I") ∈ TB := tbI 147 rfl rfl
set_option maxRecDepth 100000 in
theorem tb_155 : (Jvm.Cond.classLink "NameSeeker" (30 : Nat) "NameSeeker$Word") ∈ TB := tbI 155 rfl rfl
set_option maxRecDepth 100000 in
theorem tb_156 : (Jvm.Cond.instantiable "NameSeeker$Word" (2 : Nat)) ∈ TB := tbI 156 rfl rfl
set_option maxRecDepth 100000 in
theorem tb_158 : (Jvm.Cond.instanceMethod ({ cls := "NameSeeker$Word", name := "<init>", desc := "()V" } : Jvm.MethodName)) ∈ TB := tbI 158 rfl rfl
set_option maxRecDepth 100000 in
theorem tb_159 : (Jvm.Cond.code ({ cls := "NameSeeker$Word", name := "<init>", desc := "()V" } : Jvm.MethodName) prog_10_method_1_code (1 : Nat) (Option.none : Option Jvm.ClassFile.FieldType)) ∈ TB := tbI 159 rfl rfl
set_option maxRecDepth 100000 in
theorem tb_161 : (Jvm.Cond.fieldLink "NameSeeker$Word" (9 : Nat) "NameSeeker$Word" "letters" "[C") ∈ TB := tbI 161 rfl rfl
set_option maxRecDepth 100000 in
theorem tb_162 : (Jvm.Cond.fieldLink "NameSeeker$Laying" (39 : Nat) "NameSeeker$Word" "letters" "[C") ∈ TB := tbI 162 rfl rfl
set_option maxRecDepth 100000 in
theorem tb_163 : (Jvm.Cond.fieldLink "NameSeeker" (190 : Nat) "NameSeeker$Word" "letters" "[C") ∈ TB := tbI 163 rfl rfl
set_option maxRecDepth 100000 in
theorem tb_164 : (Jvm.Cond.fieldLink "NameSeeker$Word" (15 : Nat) "NameSeeker$Word" "size" "I") ∈ TB := tbI 164 rfl rfl
set_option maxRecDepth 100000 in
theorem tb_165 : (Jvm.Cond.fieldLink "NameSeeker$Laying" (27 : Nat) "NameSeeker$Word" "size" "I") ∈ TB := tbI 165 rfl rfl
set_option maxRecDepth 100000 in
theorem tb_166 : (Jvm.Cond.fieldLink "NameSeeker" (182 : Nat) "NameSeeker$Word" "size" "I") ∈ TB := tbI 166 rfl rfl
set_option maxRecDepth 100000 in
theorem tb_173 : (Jvm.Cond.classLink "NameSeeker" (44 : Nat) "NameSeeker$Laying") ∈ TB := tbI 173 rfl rfl
set_option maxRecDepth 100000 in
theorem tb_174 : (Jvm.Cond.instantiable "NameSeeker$Laying" (4 : Nat)) ∈ TB := tbI 174 rfl rfl
set_option maxRecDepth 100000 in
theorem tb_176 : (Jvm.Cond.instanceMethod ({ cls := "NameSeeker$Laying", name := "<init>", desc := "()V" } : Jvm.MethodName)) ∈ TB := tbI 176 rfl rfl
set_option maxRecDepth 100000 in
theorem tb_177 : (Jvm.Cond.code ({ cls := "NameSeeker$Laying", name := "<init>", desc := "()V" } : Jvm.MethodName) prog_4_method_1_code (1 : Nat) (Option.none : Option Jvm.ClassFile.FieldType)) ∈ TB := tbI 177 rfl rfl
set_option maxRecDepth 100000 in
theorem tb_179 : (Jvm.Cond.classLink "NameSeeker$Laying" (9 : Nat) "[[I") ∈ TB := tbI 179 rfl rfl
set_option maxRecDepth 100000 in
theorem tb_181 : (Jvm.Cond.fieldLink "NameSeeker$Laying" (11 : Nat) "NameSeeker$Laying" "tails" "[[I") ∈ TB := tbI 181 rfl rfl
set_option maxRecDepth 100000 in
theorem tb_182 : (Jvm.Cond.fieldLink "NameSeeker$Laying" (16 : Nat) "NameSeeker$Laying" "nexts" "[[I") ∈ TB := tbI 182 rfl rfl
set_option maxRecDepth 100000 in
theorem tb_183 : (Jvm.Cond.fieldLink "NameSeeker$Laying" (19 : Nat) "NameSeeker$Laying" "counts" "[I") ∈ TB := tbI 183 rfl rfl
set_option maxRecDepth 100000 in
theorem tb_184 : (Jvm.Cond.fieldLink "NameSeeker$Laying" (23 : Nat) "NameSeeker$Laying" "bestFirst" "I") ∈ TB := tbI 184 rfl rfl
set_option maxRecDepth 100000 in
theorem tb_194 : (Jvm.Cond.arrayClass Jvm.ClassFile.FieldType.int) ∈ TB := tbI 194 rfl rfl
set_option maxRecDepth 100000 in
theorem tb_195 : (Jvm.Cond.classLink "NameSeeker" (51 : Nat) "NameSeeker$Known") ∈ TB := tbI 195 rfl rfl
set_option maxRecDepth 100000 in
theorem tb_196 : (Jvm.Cond.instantiable "NameSeeker$Known" (6 : Nat)) ∈ TB := tbI 196 rfl rfl
set_option maxRecDepth 100000 in
theorem tb_198 : (Jvm.Cond.instanceMethod ({ cls := "NameSeeker$Known", name := "<init>", desc := "()V" } : Jvm.MethodName)) ∈ TB := tbI 198 rfl rfl
set_option maxRecDepth 100000 in
theorem tb_199 : (Jvm.Cond.code ({ cls := "NameSeeker$Known", name := "<init>", desc := "()V" } : Jvm.MethodName) prog_3_method_1_code (1 : Nat) (Option.none : Option Jvm.ClassFile.FieldType)) ∈ TB := tbI 199 rfl rfl
set_option maxRecDepth 100000 in
theorem tb_201 : (Jvm.Cond.fieldLink "NameSeeker$Known" (9 : Nat) "NameSeeker$Known" "ids" "[I") ∈ TB := tbI 201 rfl rfl
set_option maxRecDepth 100000 in
theorem tb_202 : (Jvm.Cond.fieldLink "NameSeeker$Known" (15 : Nat) "NameSeeker$Known" "codes" "[J") ∈ TB := tbI 202 rfl rfl
set_option maxRecDepth 100000 in
theorem tb_203 : (Jvm.Cond.fieldLink "NameSeeker$Known" (19 : Nat) "NameSeeker$Known" "ages" "[I") ∈ TB := tbI 203 rfl rfl
set_option maxRecDepth 100000 in
theorem tb_204 : (Jvm.Cond.fieldLink "NameSeeker$Known" (22 : Nat) "NameSeeker$Known" "scores" "[I") ∈ TB := tbI 204 rfl rfl
set_option maxRecDepth 100000 in
theorem tb_205 : (Jvm.Cond.fieldLink "NameSeeker" (270 : Nat) "NameSeeker$Known" "scores" "[I") ∈ TB := tbI 205 rfl rfl
set_option maxRecDepth 100000 in
theorem tb_206 : (Jvm.Cond.fieldLink "NameSeeker$Known" (25 : Nat) "NameSeeker$Known" "hits" "I") ∈ TB := tbI 206 rfl rfl
set_option maxRecDepth 100000 in
theorem tb_207 : (Jvm.Cond.fieldLink "NameSeeker" (267 : Nat) "NameSeeker$Known" "hits" "I") ∈ TB := tbI 207 rfl rfl
set_option maxRecDepth 100000 in
theorem tb_208 : (Jvm.Cond.fieldLink "NameSeeker$Known" (29 : Nat) "NameSeeker$Known" "misses" "I") ∈ TB := tbI 208 rfl rfl
set_option maxRecDepth 100000 in
theorem tb_209 : (Jvm.Cond.fieldLink "NameSeeker" (273 : Nat) "NameSeeker$Known" "misses" "I") ∈ TB := tbI 209 rfl rfl
set_option maxRecDepth 100000 in
theorem tb_223 : (Jvm.Cond.arrayClass Jvm.ClassFile.FieldType.long) ∈ TB := tbI 223 rfl rfl
set_option maxRecDepth 100000 in
theorem tb_224 : (Jvm.Cond.classLink "NameSeeker" (58 : Nat) "NameSeeker$Asked") ∈ TB := tbI 224 rfl rfl
set_option maxRecDepth 100000 in
theorem tb_225 : (Jvm.Cond.instantiable "NameSeeker$Asked" (2 : Nat)) ∈ TB := tbI 225 rfl rfl
set_option maxRecDepth 100000 in
theorem tb_227 : (Jvm.Cond.instanceMethod ({ cls := "NameSeeker$Asked", name := "<init>", desc := "()V" } : Jvm.MethodName)) ∈ TB := tbI 227 rfl rfl
set_option maxRecDepth 100000 in
theorem tb_228 : (Jvm.Cond.code ({ cls := "NameSeeker$Asked", name := "<init>", desc := "()V" } : Jvm.MethodName) prog_2_method_1_code (1 : Nat) (Option.none : Option Jvm.ClassFile.FieldType)) ∈ TB := tbI 228 rfl rfl
set_option maxRecDepth 100000 in
theorem tb_230 : (Jvm.Cond.fieldLink "NameSeeker$Asked" (9 : Nat) "NameSeeker$Asked" "codes" "[J") ∈ TB := tbI 230 rfl rfl
set_option maxRecDepth 100000 in
theorem tb_231 : (Jvm.Cond.fieldLink "NameSeeker" (242 : Nat) "NameSeeker$Asked" "codes" "[J") ∈ TB := tbI 231 rfl rfl
set_option maxRecDepth 100000 in
theorem tb_232 : (Jvm.Cond.fieldLink "NameSeeker$Asked" (15 : Nat) "NameSeeker$Asked" "size" "I") ∈ TB := tbI 232 rfl rfl
set_option maxRecDepth 100000 in
theorem tb_233 : (Jvm.Cond.fieldLink "NameSeeker" (241 : Nat) "NameSeeker$Asked" "size" "I") ∈ TB := tbI 233 rfl rfl
set_option maxRecDepth 100000 in
theorem tb_239 : (Jvm.Cond.classLink "NameSeeker" (65 : Nat) "NameSeeker$Ranking") ∈ TB := tbI 239 rfl rfl
set_option maxRecDepth 100000 in
theorem tb_240 : (Jvm.Cond.instantiable "NameSeeker$Ranking" (3 : Nat)) ∈ TB := tbI 240 rfl rfl
set_option maxRecDepth 100000 in
theorem tb_242 : (Jvm.Cond.instanceMethod ({ cls := "NameSeeker$Ranking", name := "<init>", desc := "()V" } : Jvm.MethodName)) ∈ TB := tbI 242 rfl rfl
set_option maxRecDepth 100000 in
theorem tb_243 : (Jvm.Cond.code ({ cls := "NameSeeker$Ranking", name := "<init>", desc := "()V" } : Jvm.MethodName) prog_7_method_1_code (1 : Nat) (Option.none : Option Jvm.ClassFile.FieldType)) ∈ TB := tbI 243 rfl rfl
set_option maxRecDepth 100000 in
theorem tb_245 : (Jvm.Cond.fieldLink "NameSeeker$Ranking" (9 : Nat) "NameSeeker$Ranking" "scores" "[I") ∈ TB := tbI 245 rfl rfl
set_option maxRecDepth 100000 in
theorem tb_246 : (Jvm.Cond.fieldLink "NameSeeker" (280 : Nat) "NameSeeker$Ranking" "scores" "[I") ∈ TB := tbI 246 rfl rfl
set_option maxRecDepth 100000 in
theorem tb_247 : (Jvm.Cond.fieldLink "NameSeeker$Ranking" (15 : Nat) "NameSeeker$Ranking" "numbers" "[I") ∈ TB := tbI 247 rfl rfl
set_option maxRecDepth 100000 in
theorem tb_248 : (Jvm.Cond.fieldLink "NameSeeker" (222 : Nat) "NameSeeker$Ranking" "numbers" "[I") ∈ TB := tbI 248 rfl rfl
set_option maxRecDepth 100000 in
theorem tb_249 : (Jvm.Cond.fieldLink "NameSeeker$Ranking" (18 : Nat) "NameSeeker$Ranking" "size" "I") ∈ TB := tbI 249 rfl rfl
set_option maxRecDepth 100000 in
theorem tb_250 : (Jvm.Cond.fieldLink "NameSeeker" (221 : Nat) "NameSeeker$Ranking" "size" "I") ∈ TB := tbI 250 rfl rfl
set_option maxRecDepth 100000 in
theorem tb_307 : (Jvm.Cond.methodLink "NameSeeker" (97 : Nat) ({ cls := "NameSeeker$Text", name := "append", desc := "(C)V" } : Jvm.MethodName)) ∈ TB := tbI 307 rfl rfl
set_option maxRecDepth 100000 in
theorem tb_308 : (Jvm.Cond.instanceMethod ({ cls := "NameSeeker$Text", name := "append", desc := "(C)V" } : Jvm.MethodName)) ∈ TB := tbI 308 rfl rfl
set_option maxRecDepth 100000 in
theorem tb_309 : (Jvm.Cond.selects "NameSeeker$Text" ({ cls := "NameSeeker$Text", name := "append", desc := "(C)V" } : Jvm.MethodName) ({ cls := "NameSeeker$Text", name := "append", desc := "(C)V" } : Jvm.MethodName)) ∈ TB := tbI 309 rfl rfl
set_option maxRecDepth 100000 in
theorem tb_310 : (Jvm.Cond.code ({ cls := "NameSeeker$Text", name := "append", desc := "(C)V" } : Jvm.MethodName) prog_9_method_2_code (2 : Nat) (Option.none : Option Jvm.ClassFile.FieldType)) ∈ TB := tbI 310 rfl rfl
set_option maxRecDepth 100000 in
theorem tb_311 : (Jvm.Cond.methodLink "NameSeeker" (101 : Nat) ({ cls := "NameSeeker", name := "layText", desc := "()V" } : Jvm.MethodName)) ∈ TB := tbI 311 rfl rfl
set_option maxRecDepth 100000 in
theorem tb_313 : (Jvm.Cond.instanceMethod ({ cls := "NameSeeker", name := "layText", desc := "()V" } : Jvm.MethodName)) ∈ TB := tbI 313 rfl rfl
set_option maxRecDepth 100000 in
theorem tb_314 : (Jvm.Cond.code ({ cls := "NameSeeker", name := "layText", desc := "()V" } : Jvm.MethodName) prog_1_method_8_code (3 : Nat) (Option.none : Option Jvm.ClassFile.FieldType)) ∈ TB := tbI 314 rfl rfl
set_option maxRecDepth 100000 in
theorem tb_315 : (Jvm.Cond.methodLink "NameSeeker" (145 : Nat) ({ cls := "NameSeeker$Lot", name := "clear", desc := "()V" } : Jvm.MethodName)) ∈ TB := tbI 315 rfl rfl
set_option maxRecDepth 100000 in
theorem tb_316 : (Jvm.Cond.instanceMethod ({ cls := "NameSeeker$Lot", name := "clear", desc := "()V" } : Jvm.MethodName)) ∈ TB := tbI 316 rfl rfl
set_option maxRecDepth 100000 in
theorem tb_317 : (Jvm.Cond.selects "NameSeeker$Lot" ({ cls := "NameSeeker$Lot", name := "clear", desc := "()V" } : Jvm.MethodName) ({ cls := "NameSeeker$Lot", name := "clear", desc := "()V" } : Jvm.MethodName)) ∈ TB := tbI 317 rfl rfl
set_option maxRecDepth 100000 in
theorem tb_318 : (Jvm.Cond.code ({ cls := "NameSeeker$Lot", name := "clear", desc := "()V" } : Jvm.MethodName) prog_5_method_3_code (1 : Nat) (Option.none : Option Jvm.ClassFile.FieldType)) ∈ TB := tbI 318 rfl rfl
set_option maxRecDepth 100000 in
theorem tb_319 : (Jvm.Cond.methodLink "NameSeeker" (147 : Nat) ({ cls := "NameSeeker$Scales", name := "setDefaults", desc := "()V" } : Jvm.MethodName)) ∈ TB := tbI 319 rfl rfl
set_option maxRecDepth 100000 in
theorem tb_320 : (Jvm.Cond.instanceMethod ({ cls := "NameSeeker$Scales", name := "setDefaults", desc := "()V" } : Jvm.MethodName)) ∈ TB := tbI 320 rfl rfl
set_option maxRecDepth 100000 in
theorem tb_321 : (Jvm.Cond.selects "NameSeeker$Scales" ({ cls := "NameSeeker$Scales", name := "setDefaults", desc := "()V" } : Jvm.MethodName) ({ cls := "NameSeeker$Scales", name := "setDefaults", desc := "()V" } : Jvm.MethodName)) ∈ TB := tbI 321 rfl rfl
set_option maxRecDepth 100000 in
theorem tb_322 : (Jvm.Cond.code ({ cls := "NameSeeker$Scales", name := "setDefaults", desc := "()V" } : Jvm.MethodName) prog_8_method_3_code (1 : Nat) (Option.none : Option Jvm.ClassFile.FieldType)) ∈ TB := tbI 322 rfl rfl
set_option maxRecDepth 100000 in
theorem tb_323 : (Jvm.Cond.methodLink "NameSeeker$Scales" (21 : Nat) ({ cls := "NameSeeker$Scales", name := "set", desc := "(III)V" } : Jvm.MethodName)) ∈ TB := tbI 323 rfl rfl
set_option maxRecDepth 100000 in
theorem tb_324 : (Jvm.Cond.instanceMethod ({ cls := "NameSeeker$Scales", name := "set", desc := "(III)V" } : Jvm.MethodName)) ∈ TB := tbI 324 rfl rfl
set_option maxRecDepth 100000 in
theorem tb_325 : (Jvm.Cond.selects "NameSeeker$Scales" ({ cls := "NameSeeker$Scales", name := "set", desc := "(III)V" } : Jvm.MethodName) ({ cls := "NameSeeker$Scales", name := "set", desc := "(III)V" } : Jvm.MethodName)) ∈ TB := tbI 325 rfl rfl
set_option maxRecDepth 100000 in
theorem tb_326 : (Jvm.Cond.code ({ cls := "NameSeeker$Scales", name := "set", desc := "(III)V" } : Jvm.MethodName) prog_8_method_4_code (4 : Nat) (Option.none : Option Jvm.ClassFile.FieldType)) ∈ TB := tbI 326 rfl rfl
set_option maxRecDepth 100000 in
theorem tb_327 : (Jvm.Cond.methodLink "NameSeeker" (150 : Nat) ({ cls := "NameSeeker", name := "readItem", desc := "(I)V" } : Jvm.MethodName)) ∈ TB := tbI 327 rfl rfl
set_option maxRecDepth 100000 in
theorem tb_329 : (Jvm.Cond.instanceMethod ({ cls := "NameSeeker", name := "readItem", desc := "(I)V" } : Jvm.MethodName)) ∈ TB := tbI 329 rfl rfl
set_option maxRecDepth 100000 in
theorem tb_330 : (Jvm.Cond.code ({ cls := "NameSeeker", name := "readItem", desc := "(I)V" } : Jvm.MethodName) prog_1_method_9_code (4 : Nat) (Option.none : Option Jvm.ClassFile.FieldType)) ∈ TB := tbI 330 rfl rfl
set_option maxRecDepth 100000 in
theorem tb_331 : (Jvm.Cond.methodLink "NameSeeker" (159 : Nat) ({ cls := "NameSeeker$Text", name := "at", desc := "(I)C" } : Jvm.MethodName)) ∈ TB := tbI 331 rfl rfl
set_option maxRecDepth 100000 in
theorem tb_332 : (Jvm.Cond.instanceMethod ({ cls := "NameSeeker$Text", name := "at", desc := "(I)C" } : Jvm.MethodName)) ∈ TB := tbI 332 rfl rfl
set_option maxRecDepth 100000 in
theorem tb_333 : (Jvm.Cond.selects "NameSeeker$Text" ({ cls := "NameSeeker$Text", name := "at", desc := "(I)C" } : Jvm.MethodName) ({ cls := "NameSeeker$Text", name := "at", desc := "(I)C" } : Jvm.MethodName)) ∈ TB := tbI 333 rfl rfl
set_option maxRecDepth 100000 in
theorem tb_334 : (Jvm.Cond.code ({ cls := "NameSeeker$Text", name := "at", desc := "(I)C" } : Jvm.MethodName) prog_9_method_4_code (2 : Nat) (Option.some Jvm.ClassFile.FieldType.char)) ∈ TB := tbI 334 rfl rfl
set_option maxRecDepth 100000 in
theorem tb_335 : (Jvm.Cond.methodLink "NameSeeker" (162 : Nat) ({ cls := "NameSeeker$Text", name := "figureAt", desc := "(I)I" } : Jvm.MethodName)) ∈ TB := tbI 335 rfl rfl
set_option maxRecDepth 100000 in
theorem tb_336 : (Jvm.Cond.instanceMethod ({ cls := "NameSeeker$Text", name := "figureAt", desc := "(I)I" } : Jvm.MethodName)) ∈ TB := tbI 336 rfl rfl
set_option maxRecDepth 100000 in
theorem tb_337 : (Jvm.Cond.selects "NameSeeker$Text" ({ cls := "NameSeeker$Text", name := "figureAt", desc := "(I)I" } : Jvm.MethodName) ({ cls := "NameSeeker$Text", name := "figureAt", desc := "(I)I" } : Jvm.MethodName)) ∈ TB := tbI 337 rfl rfl
set_option maxRecDepth 100000 in
theorem tb_338 : (Jvm.Cond.code ({ cls := "NameSeeker$Text", name := "figureAt", desc := "(I)I" } : Jvm.MethodName) prog_9_method_5_code (2 : Nat) (Option.some Jvm.ClassFile.FieldType.int)) ∈ TB := tbI 338 rfl rfl
set_option maxRecDepth 100000 in
theorem tb_339 : (Jvm.Cond.methodLink "NameSeeker$Text" (19 : Nat) ({ cls := "NameSeeker$Text", name := "at", desc := "(I)C" } : Jvm.MethodName)) ∈ TB := tbI 339 rfl rfl
set_option maxRecDepth 100000 in
theorem tb_340 : (Jvm.Cond.methodLink "NameSeeker" (165 : Nat) ({ cls := "NameSeeker$Scales", name := "set", desc := "(III)V" } : Jvm.MethodName)) ∈ TB := tbI 340 rfl rfl
set_option maxRecDepth 100000 in
theorem tb_341 : (Jvm.Cond.methodLink "NameSeeker" (169 : Nat) ({ cls := "NameSeeker$Lot", name := "addName", desc := "(I)LNameSeeker$Name;" } : Jvm.MethodName)) ∈ TB := tbI 341 rfl rfl
set_option maxRecDepth 100000 in
theorem tb_342 : (Jvm.Cond.instanceMethod ({ cls := "NameSeeker$Lot", name := "addName", desc := "(I)LNameSeeker$Name;" } : Jvm.MethodName)) ∈ TB := tbI 342 rfl rfl
set_option maxRecDepth 100000 in
theorem tb_343 : (Jvm.Cond.selects "NameSeeker$Lot" ({ cls := "NameSeeker$Lot", name := "addName", desc := "(I)LNameSeeker$Name;" } : Jvm.MethodName) ({ cls := "NameSeeker$Lot", name := "addName", desc := "(I)LNameSeeker$Name;" } : Jvm.MethodName)) ∈ TB := tbI 343 rfl rfl
set_option maxRecDepth 100000 in
theorem tb_344 : (Jvm.Cond.code ({ cls := "NameSeeker$Lot", name := "addName", desc := "(I)LNameSeeker$Name;" } : Jvm.MethodName) prog_5_method_4_code (3 : Nat) (Option.some (Jvm.ClassFile.FieldType.object "NameSeeker$Name"))) ∈ TB := tbI 344 rfl rfl
set_option maxRecDepth 100000 in
theorem tb_345 : (Jvm.Cond.methodLink "NameSeeker$Lot" (25 : Nat) ({ cls := "NameSeeker$Name", name := "reset", desc := "(II)V" } : Jvm.MethodName)) ∈ TB := tbI 345 rfl rfl
set_option maxRecDepth 100000 in
theorem tb_346 : (Jvm.Cond.instanceMethod ({ cls := "NameSeeker$Name", name := "reset", desc := "(II)V" } : Jvm.MethodName)) ∈ TB := tbI 346 rfl rfl
set_option maxRecDepth 100000 in
theorem tb_347 : (Jvm.Cond.selects "NameSeeker$Name" ({ cls := "NameSeeker$Name", name := "reset", desc := "(II)V" } : Jvm.MethodName) ({ cls := "NameSeeker$Name", name := "reset", desc := "(II)V" } : Jvm.MethodName)) ∈ TB := tbI 347 rfl rfl
set_option maxRecDepth 100000 in
theorem tb_348 : (Jvm.Cond.code ({ cls := "NameSeeker$Name", name := "reset", desc := "(II)V" } : Jvm.MethodName) prog_6_method_2_code (3 : Nat) (Option.none : Option Jvm.ClassFile.FieldType)) ∈ TB := tbI 348 rfl rfl
set_option maxRecDepth 100000 in
theorem tb_349 : (Jvm.Cond.methodLink "NameSeeker" (173 : Nat) ({ cls := "NameSeeker", name := "isSign", desc := "(I)Z" } : Jvm.MethodName)) ∈ TB := tbI 349 rfl rfl
set_option maxRecDepth 100000 in
theorem tb_350 : (Jvm.Cond.static ({ cls := "NameSeeker", name := "isSign", desc := "(I)Z" } : Jvm.MethodName)) ∈ TB := tbI 350 rfl rfl
set_option maxRecDepth 100000 in
theorem tb_351 : (Jvm.Cond.code ({ cls := "NameSeeker", name := "isSign", desc := "(I)Z" } : Jvm.MethodName) prog_1_method_36_code (1 : Nat) (Option.some Jvm.ClassFile.FieldType.boolean)) ∈ TB := tbI 351 rfl rfl
set_option maxRecDepth 100000 in
theorem tb_352 : (Jvm.Cond.methodLink "NameSeeker" (179 : Nat) ({ cls := "NameSeeker", name := "isLetter", desc := "(I)Z" } : Jvm.MethodName)) ∈ TB := tbI 352 rfl rfl
set_option maxRecDepth 100000 in
theorem tb_353 : (Jvm.Cond.static ({ cls := "NameSeeker", name := "isLetter", desc := "(I)Z" } : Jvm.MethodName)) ∈ TB := tbI 353 rfl rfl
set_option maxRecDepth 100000 in
theorem tb_354 : (Jvm.Cond.code ({ cls := "NameSeeker", name := "isLetter", desc := "(I)Z" } : Jvm.MethodName) prog_1_method_35_code (1 : Nat) (Option.some Jvm.ClassFile.FieldType.boolean)) ∈ TB := tbI 354 rfl rfl
set_option maxRecDepth 100000 in
theorem tb_355 : (Jvm.Cond.methodLink "NameSeeker" (301 : Nat) ({ cls := "NameSeeker", name := "isSmall", desc := "(I)Z" } : Jvm.MethodName)) ∈ TB := tbI 355 rfl rfl
set_option maxRecDepth 100000 in
theorem tb_356 : (Jvm.Cond.static ({ cls := "NameSeeker", name := "isSmall", desc := "(I)Z" } : Jvm.MethodName)) ∈ TB := tbI 356 rfl rfl
set_option maxRecDepth 100000 in
theorem tb_357 : (Jvm.Cond.code ({ cls := "NameSeeker", name := "isSmall", desc := "(I)Z" } : Jvm.MethodName) prog_1_method_33_code (1 : Nat) (Option.some Jvm.ClassFile.FieldType.boolean)) ∈ TB := tbI 357 rfl rfl
set_option maxRecDepth 100000 in
theorem tb_358 : (Jvm.Cond.methodLink "NameSeeker" (304 : Nat) ({ cls := "NameSeeker", name := "isGreat", desc := "(I)Z" } : Jvm.MethodName)) ∈ TB := tbI 358 rfl rfl
set_option maxRecDepth 100000 in
theorem tb_359 : (Jvm.Cond.static ({ cls := "NameSeeker", name := "isGreat", desc := "(I)Z" } : Jvm.MethodName)) ∈ TB := tbI 359 rfl rfl
set_option maxRecDepth 100000 in
theorem tb_360 : (Jvm.Cond.code ({ cls := "NameSeeker", name := "isGreat", desc := "(I)Z" } : Jvm.MethodName) prog_1_method_34_code (1 : Nat) (Option.some Jvm.ClassFile.FieldType.boolean)) ∈ TB := tbI 360 rfl rfl
set_option maxRecDepth 100000 in
theorem tb_361 : (Jvm.Cond.methodLink "NameSeeker" (176 : Nat) ({ cls := "NameSeeker$Name", name := "addSign", desc := "(C)V" } : Jvm.MethodName)) ∈ TB := tbI 361 rfl rfl
set_option maxRecDepth 100000 in
theorem tb_362 : (Jvm.Cond.instanceMethod ({ cls := "NameSeeker$Name", name := "addSign", desc := "(C)V" } : Jvm.MethodName)) ∈ TB := tbI 362 rfl rfl
set_option maxRecDepth 100000 in
theorem tb_363 : (Jvm.Cond.selects "NameSeeker$Name" ({ cls := "NameSeeker$Name", name := "addSign", desc := "(C)V" } : Jvm.MethodName) ({ cls := "NameSeeker$Name", name := "addSign", desc := "(C)V" } : Jvm.MethodName)) ∈ TB := tbI 363 rfl rfl
set_option maxRecDepth 100000 in
theorem tb_364 : (Jvm.Cond.code ({ cls := "NameSeeker$Name", name := "addSign", desc := "(C)V" } : Jvm.MethodName) prog_6_method_3_code (2 : Nat) (Option.none : Option Jvm.ClassFile.FieldType)) ∈ TB := tbI 364 rfl rfl
set_option maxRecDepth 100000 in
theorem tb_365 : (Jvm.Cond.methodLink "NameSeeker$Name" (34 : Nat) ({ cls := "NameSeeker$Name", name := "wouldBegin", desc := "(C)Z" } : Jvm.MethodName)) ∈ TB := tbI 365 rfl rfl
set_option maxRecDepth 100000 in
theorem tb_367 : (Jvm.Cond.instanceMethod ({ cls := "NameSeeker$Name", name := "wouldBegin", desc := "(C)Z" } : Jvm.MethodName)) ∈ TB := tbI 367 rfl rfl
set_option maxRecDepth 100000 in
theorem tb_368 : (Jvm.Cond.code ({ cls := "NameSeeker$Name", name := "wouldBegin", desc := "(C)Z" } : Jvm.MethodName) prog_6_method_4_code (3 : Nat) (Option.some Jvm.ClassFile.FieldType.boolean)) ∈ TB := tbI 368 rfl rfl
set_option maxRecDepth 100000 in
theorem tb_373 : (Jvm.Cond.static ({ cls := "NameSeeker", name := "letterNumber", desc := "(I)I" } : Jvm.MethodName)) ∈ TB := tbI 373 rfl rfl
set_option maxRecDepth 100000 in
theorem tb_374 : (Jvm.Cond.code ({ cls := "NameSeeker", name := "letterNumber", desc := "(I)I" } : Jvm.MethodName) prog_1_method_37_code (1 : Nat) (Option.some Jvm.ClassFile.FieldType.int)) ∈ TB := tbI 374 rfl rfl
set_option maxRecDepth 100000 in
theorem tb_375 : (Jvm.Cond.methodLink "NameSeeker" (154 : Nat) ({ cls := "NameSeeker$Text", name := "behindItem", desc := "(I)I" } : Jvm.MethodName)) ∈ TB := tbI 375 rfl rfl
set_option maxRecDepth 100000 in
theorem tb_376 : (Jvm.Cond.instanceMethod ({ cls := "NameSeeker$Text", name := "behindItem", desc := "(I)I" } : Jvm.MethodName)) ∈ TB := tbI 376 rfl rfl
set_option maxRecDepth 100000 in
theorem tb_377 : (Jvm.Cond.selects "NameSeeker$Text" ({ cls := "NameSeeker$Text", name := "behindItem", desc := "(I)I" } : Jvm.MethodName) ({ cls := "NameSeeker$Text", name := "behindItem", desc := "(I)I" } : Jvm.MethodName)) ∈ TB := tbI 377 rfl rfl
set_option maxRecDepth 100000 in
theorem tb_378 : (Jvm.Cond.code ({ cls := "NameSeeker$Text", name := "behindItem", desc := "(I)I" } : Jvm.MethodName) prog_9_method_8_code (2 : Nat) (Option.some Jvm.ClassFile.FieldType.int)) ∈ TB := tbI 378 rfl rfl
set_option maxRecDepth 100000 in
theorem tb_379 : (Jvm.Cond.methodLink "NameSeeker$Text" (27 : Nat) ({ cls := "NameSeeker$Text", name := "behindName", desc := "(I)I" } : Jvm.MethodName)) ∈ TB := tbI 379 rfl rfl
set_option maxRecDepth 100000 in
theorem tb_381 : (Jvm.Cond.instanceMethod ({ cls := "NameSeeker$Text", name := "behindName", desc := "(I)I" } : Jvm.MethodName)) ∈ TB := tbI 381 rfl rfl
set_option maxRecDepth 100000 in
theorem tb_382 : (Jvm.Cond.code ({ cls := "NameSeeker$Text", name := "behindName", desc := "(I)I" } : Jvm.MethodName) prog_9_method_9_code (4 : Nat) (Option.some Jvm.ClassFile.FieldType.int)) ∈ TB := tbI 382 rfl rfl
set_option maxRecDepth 100000 in
theorem tb_383 : (Jvm.Cond.methodLink "NameSeeker$Text" (33 : Nat) ({ cls := "NameSeeker$Text", name := "isFigure", desc := "(II)Z" } : Jvm.MethodName)) ∈ TB := tbI 383 rfl rfl
set_option maxRecDepth 100000 in
theorem tb_385 : (Jvm.Cond.instanceMethod ({ cls := "NameSeeker$Text", name := "isFigure", desc := "(II)Z" } : Jvm.MethodName)) ∈ TB := tbI 385 rfl rfl
set_option maxRecDepth 100000 in
theorem tb_386 : (Jvm.Cond.code ({ cls := "NameSeeker$Text", name := "isFigure", desc := "(II)Z" } : Jvm.MethodName) prog_9_method_11_code (3 : Nat) (Option.some Jvm.ClassFile.FieldType.boolean)) ∈ TB := tbI 386 rfl rfl
set_option maxRecDepth 100000 in
theorem tb_387 : (Jvm.Cond.methodLink "NameSeeker$Text" (41 : Nat) ({ cls := "NameSeeker$Text", name := "figureAt", desc := "(I)I" } : Jvm.MethodName)) ∈ TB := tbI 387 rfl rfl
set_option maxRecDepth 100000 in
theorem tb_389 : (Jvm.Cond.methodLink "NameSeeker$Text" (30 : Nat) ({ cls := "NameSeeker$Text", name := "behindWorths", desc := "(I)I" } : Jvm.MethodName)) ∈ TB := tbI 389 rfl rfl
set_option maxRecDepth 100000 in
theorem tb_391 : (Jvm.Cond.instanceMethod ({ cls := "NameSeeker$Text", name := "behindWorths", desc := "(I)I" } : Jvm.MethodName)) ∈ TB := tbI 391 rfl rfl
set_option maxRecDepth 100000 in
theorem tb_392 : (Jvm.Cond.code ({ cls := "NameSeeker$Text", name := "behindWorths", desc := "(I)I" } : Jvm.MethodName) prog_9_method_10_code (3 : Nat) (Option.some Jvm.ClassFile.FieldType.int)) ∈ TB := tbI 392 rfl rfl
set_option maxRecDepth 100000 in
theorem tb_393 : (Jvm.Cond.methodLink "NameSeeker" (158 : Nat) ({ cls := "NameSeeker$Word", name := "clear", desc := "()V" } : Jvm.MethodName)) ∈ TB := tbI 393 rfl rfl
set_option maxRecDepth 100000 in
theorem tb_394 : (Jvm.Cond.instanceMethod ({ cls := "NameSeeker$Word", name := "clear", desc := "()V" } : Jvm.MethodName)) ∈ TB := tbI 394 rfl rfl
set_option maxRecDepth 100000 in
theorem tb_395 : (Jvm.Cond.selects "NameSeeker$Word" ({ cls := "NameSeeker$Word", name := "clear", desc := "()V" } : Jvm.MethodName) ({ cls := "NameSeeker$Word", name := "clear", desc := "()V" } : Jvm.MethodName)) ∈ TB := tbI 395 rfl rfl
set_option maxRecDepth 100000 in
theorem tb_396 : (Jvm.Cond.code ({ cls := "NameSeeker$Word", name := "clear", desc := "()V" } : Jvm.MethodName) prog_10_method_2_code (1 : Nat) (Option.none : Option Jvm.ClassFile.FieldType)) ∈ TB := tbI 396 rfl rfl
set_option maxRecDepth 100000 in
theorem tb_397 : (Jvm.Cond.methodLink "NameSeeker" (104 : Nat) ({ cls := "NameSeeker$Text", name := "clear", desc := "()I" } : Jvm.MethodName)) ∈ TB := tbI 397 rfl rfl
set_option maxRecDepth 100000 in
theorem tb_398 : (Jvm.Cond.instanceMethod ({ cls := "NameSeeker$Text", name := "clear", desc := "()I" } : Jvm.MethodName)) ∈ TB := tbI 398 rfl rfl
set_option maxRecDepth 100000 in
theorem tb_399 : (Jvm.Cond.selects "NameSeeker$Text" ({ cls := "NameSeeker$Text", name := "clear", desc := "()I" } : Jvm.MethodName) ({ cls := "NameSeeker$Text", name := "clear", desc := "()I" } : Jvm.MethodName)) ∈ TB := tbI 399 rfl rfl
set_option maxRecDepth 100000 in
theorem tb_400 : (Jvm.Cond.code ({ cls := "NameSeeker$Text", name := "clear", desc := "()I" } : Jvm.MethodName) prog_9_method_3_code (2 : Nat) (Option.some Jvm.ClassFile.FieldType.int)) ∈ TB := tbI 400 rfl rfl
set_option maxRecDepth 100000 in
theorem tb_401 : (Jvm.Cond.fieldLink "NameSeeker" (10 : Nat) "NameSeeker" "text" "LNameSeeker$Text;") ∈ TB := tbI 401 rfl rfl
set_option maxRecDepth 100000 in
theorem tb_402 : (Jvm.Cond.fieldLink "NameSeeker" (19 : Nat) "NameSeeker" "lot" "LNameSeeker$Lot;") ∈ TB := tbI 402 rfl rfl
set_option maxRecDepth 100000 in
theorem tb_403 : (Jvm.Cond.fieldLink "NameSeeker" (26 : Nat) "NameSeeker" "scales" "LNameSeeker$Scales;") ∈ TB := tbI 403 rfl rfl
set_option maxRecDepth 100000 in
theorem tb_404 : (Jvm.Cond.fieldLink "NameSeeker" (33 : Nat) "NameSeeker" "typed" "LNameSeeker$Word;") ∈ TB := tbI 404 rfl rfl
set_option maxRecDepth 100000 in
theorem tb_405 : (Jvm.Cond.fieldLink "NameSeeker" (37 : Nat) "NameSeeker" "tried" "LNameSeeker$Word;") ∈ TB := tbI 405 rfl rfl
set_option maxRecDepth 100000 in
theorem tb_406 : (Jvm.Cond.fieldLink "NameSeeker" (40 : Nat) "NameSeeker" "kept" "[LNameSeeker$Word;") ∈ TB := tbI 406 rfl rfl
set_option maxRecDepth 100000 in
theorem tb_407 : (Jvm.Cond.fieldLink "NameSeeker" (47 : Nat) "NameSeeker" "laying" "LNameSeeker$Laying;") ∈ TB := tbI 407 rfl rfl
set_option maxRecDepth 100000 in
theorem tb_408 : (Jvm.Cond.fieldLink "NameSeeker" (54 : Nat) "NameSeeker" "known" "LNameSeeker$Known;") ∈ TB := tbI 408 rfl rfl
set_option maxRecDepth 100000 in
theorem tb_409 : (Jvm.Cond.fieldLink "NameSeeker" (61 : Nat) "NameSeeker" "askedCodes" "LNameSeeker$Asked;") ∈ TB := tbI 409 rfl rfl
set_option maxRecDepth 100000 in
theorem tb_410 : (Jvm.Cond.fieldLink "NameSeeker" (68 : Nat) "NameSeeker" "ranking" "LNameSeeker$Ranking;") ∈ TB := tbI 410 rfl rfl
set_option maxRecDepth 100000 in
theorem tb_411 : (Jvm.Cond.fieldLink "NameSeeker" (72 : Nat) "NameSeeker" "keptSize" "I") ∈ TB := tbI 411 rfl rfl
set_option maxRecDepth 100000 in
theorem tb_412 : (Jvm.Cond.fieldLink "NameSeeker" (76 : Nat) "NameSeeker" "tick" "I") ∈ TB := tbI 412 rfl rfl
set_option maxRecDepth 100000 in
theorem tb_413 : (Jvm.Cond.fieldLink "NameSeeker" (79 : Nat) "NameSeeker" "age" "I") ∈ TB := tbI 413 rfl rfl
set_option maxRecDepth 100000 in
theorem tb_414 : (Jvm.Cond.fieldLink "NameSeeker" (82 : Nat) "NameSeeker" "seed" "I") ∈ TB := tbI 414 rfl rfl
set_option maxRecDepth 100000 in
theorem tb_444 : (Jvm.Cond.arrayClass Jvm.ClassFile.FieldType.byte) ∈ TB := tbI 444 rfl rfl
set_option maxRecDepth 100000 in
theorem tb_445 : (Jvm.Cond.methodLink "NameSeekerLaw" (13 : Nat) ({ cls := "NameSeeker", name := "write", desc := "(I)I" } : Jvm.MethodName)) ∈ TB := tbI 445 rfl rfl
set_option maxRecDepth 100000 in
theorem tb_446 : (Jvm.Cond.instanceMethod ({ cls := "NameSeeker", name := "write", desc := "(I)I" } : Jvm.MethodName)) ∈ TB := tbI 446 rfl rfl
set_option maxRecDepth 100000 in
theorem tb_447 : (Jvm.Cond.selects "NameSeeker" ({ cls := "NameSeeker", name := "write", desc := "(I)I" } : Jvm.MethodName) ({ cls := "NameSeeker", name := "write", desc := "(I)I" } : Jvm.MethodName)) ∈ TB := tbI 447 rfl rfl
set_option maxRecDepth 100000 in
theorem tb_448 : (Jvm.Cond.code ({ cls := "NameSeeker", name := "write", desc := "(I)I" } : Jvm.MethodName) prog_1_method_2_code (2 : Nat) (Option.some Jvm.ClassFile.FieldType.int)) ∈ TB := tbI 448 rfl rfl
set_option maxRecDepth 100000 in
theorem tb_449 : (Jvm.Cond.methodLink "NameSeekerLaw" (18 : Nat) ({ cls := "NameSeeker", name := "wipe", desc := "()I" } : Jvm.MethodName)) ∈ TB := tbI 449 rfl rfl
set_option maxRecDepth 100000 in
theorem tb_450 : (Jvm.Cond.instanceMethod ({ cls := "NameSeeker", name := "wipe", desc := "()I" } : Jvm.MethodName)) ∈ TB := tbI 450 rfl rfl
set_option maxRecDepth 100000 in
theorem tb_451 : (Jvm.Cond.selects "NameSeeker" ({ cls := "NameSeeker", name := "wipe", desc := "()I" } : Jvm.MethodName) ({ cls := "NameSeeker", name := "wipe", desc := "()I" } : Jvm.MethodName)) ∈ TB := tbI 451 rfl rfl
set_option maxRecDepth 100000 in
theorem tb_452 : (Jvm.Cond.code ({ cls := "NameSeeker", name := "wipe", desc := "()I" } : Jvm.MethodName) prog_1_method_3_code (1 : Nat) (Option.some Jvm.ClassFile.FieldType.int)) ∈ TB := tbI 452 rfl rfl
set_option maxRecDepth 100000 in
theorem tb_453 : (Jvm.Cond.methodLink "NameSeekerLaw" (23 : Nat) ({ cls := "NameSeeker", name := "fault", desc := "()I" } : Jvm.MethodName)) ∈ TB := tbI 453 rfl rfl
set_option maxRecDepth 100000 in
theorem tb_454 : (Jvm.Cond.instanceMethod ({ cls := "NameSeeker", name := "fault", desc := "()I" } : Jvm.MethodName)) ∈ TB := tbI 454 rfl rfl
set_option maxRecDepth 100000 in
theorem tb_455 : (Jvm.Cond.selects "NameSeeker" ({ cls := "NameSeeker", name := "fault", desc := "()I" } : Jvm.MethodName) ({ cls := "NameSeeker", name := "fault", desc := "()I" } : Jvm.MethodName)) ∈ TB := tbI 455 rfl rfl
set_option maxRecDepth 100000 in
theorem tb_456 : (Jvm.Cond.code ({ cls := "NameSeeker", name := "fault", desc := "()I" } : Jvm.MethodName) prog_1_method_4_code (1 : Nat) (Option.some Jvm.ClassFile.FieldType.int)) ∈ TB := tbI 456 rfl rfl
set_option maxRecDepth 100000 in
theorem tb_457 : (Jvm.Cond.methodLink "NameSeeker" (110 : Nat) ({ cls := "NameSeeker$Text", name := "firstFault", desc := "()I" } : Jvm.MethodName)) ∈ TB := tbI 457 rfl rfl
set_option maxRecDepth 100000 in
theorem tb_458 : (Jvm.Cond.instanceMethod ({ cls := "NameSeeker$Text", name := "firstFault", desc := "()I" } : Jvm.MethodName)) ∈ TB := tbI 458 rfl rfl
set_option maxRecDepth 100000 in
theorem tb_459 : (Jvm.Cond.selects "NameSeeker$Text" ({ cls := "NameSeeker$Text", name := "firstFault", desc := "()I" } : Jvm.MethodName) ({ cls := "NameSeeker$Text", name := "firstFault", desc := "()I" } : Jvm.MethodName)) ∈ TB := tbI 459 rfl rfl
set_option maxRecDepth 100000 in
theorem tb_460 : (Jvm.Cond.code ({ cls := "NameSeeker$Text", name := "firstFault", desc := "()I" } : Jvm.MethodName) prog_9_method_6_code (5 : Nat) (Option.some Jvm.ClassFile.FieldType.int)) ∈ TB := tbI 460 rfl rfl
set_option maxRecDepth 100000 in
theorem tb_461 : (Jvm.Cond.methodLink "NameSeeker$Text" (23 : Nat) ({ cls := "NameSeeker$Text", name := "behindItem", desc := "(I)I" } : Jvm.MethodName)) ∈ TB := tbI 461 rfl rfl
set_option maxRecDepth 100000 in
theorem tb_462 : (Jvm.Cond.methodLink "NameSeekerLaw" (27 : Nat) ({ cls := "NameSeeker", name := "lay", desc := "()I" } : Jvm.MethodName)) ∈ TB := tbI 462 rfl rfl
set_option maxRecDepth 100000 in
theorem tb_463 : (Jvm.Cond.instanceMethod ({ cls := "NameSeeker", name := "lay", desc := "()I" } : Jvm.MethodName)) ∈ TB := tbI 463 rfl rfl
set_option maxRecDepth 100000 in
theorem tb_464 : (Jvm.Cond.selects "NameSeeker" ({ cls := "NameSeeker", name := "lay", desc := "()I" } : Jvm.MethodName) ({ cls := "NameSeeker", name := "lay", desc := "()I" } : Jvm.MethodName)) ∈ TB := tbI 464 rfl rfl
set_option maxRecDepth 100000 in
theorem tb_465 : (Jvm.Cond.code ({ cls := "NameSeeker", name := "lay", desc := "()I" } : Jvm.MethodName) prog_1_method_5_code (1 : Nat) (Option.some Jvm.ClassFile.FieldType.int)) ∈ TB := tbI 465 rfl rfl
set_option maxRecDepth 100000 in
theorem tb_466 : (Jvm.Cond.methodLink "NameSeeker" (113 : Nat) ({ cls := "NameSeeker$Text", name := "hasName", desc := "()Z" } : Jvm.MethodName)) ∈ TB := tbI 466 rfl rfl
set_option maxRecDepth 100000 in
theorem tb_467 : (Jvm.Cond.instanceMethod ({ cls := "NameSeeker$Text", name := "hasName", desc := "()Z" } : Jvm.MethodName)) ∈ TB := tbI 467 rfl rfl
set_option maxRecDepth 100000 in
theorem tb_468 : (Jvm.Cond.selects "NameSeeker$Text" ({ cls := "NameSeeker$Text", name := "hasName", desc := "()Z" } : Jvm.MethodName) ({ cls := "NameSeeker$Text", name := "hasName", desc := "()Z" } : Jvm.MethodName)) ∈ TB := tbI 468 rfl rfl
set_option maxRecDepth 100000 in
theorem tb_469 : (Jvm.Cond.code ({ cls := "NameSeeker$Text", name := "hasName", desc := "()Z" } : Jvm.MethodName) prog_9_method_7_code (2 : Nat) (Option.some Jvm.ClassFile.FieldType.boolean)) ∈ TB := tbI 469 rfl rfl
set_option maxRecDepth 100000 in
theorem tb_470 : (Jvm.Cond.methodLink "NameSeekerLaw" (31 : Nat) ({ cls := "NameSeeker", name := "name", desc := "(II)I" } : Jvm.MethodName)) ∈ TB := tbI 470 rfl rfl
set_option maxRecDepth 100000 in
theorem tb_471 : (Jvm.Cond.instanceMethod ({ cls := "NameSeeker", name := "name", desc := "(II)I" } : Jvm.MethodName)) ∈ TB := tbI 471 rfl rfl
set_option maxRecDepth 100000 in
theorem tb_472 : (Jvm.Cond.selects "NameSeeker" ({ cls := "NameSeeker", name := "name", desc := "(II)I" } : Jvm.MethodName) ({ cls := "NameSeeker", name := "name", desc := "(II)I" } : Jvm.MethodName)) ∈ TB := tbI 472 rfl rfl
set_option maxRecDepth 100000 in
theorem tb_473 : (Jvm.Cond.code ({ cls := "NameSeeker", name := "name", desc := "(II)I" } : Jvm.MethodName) prog_1_method_6_code (4 : Nat) (Option.some Jvm.ClassFile.FieldType.int)) ∈ TB := tbI 473 rfl rfl
set_option maxRecDepth 100000 in
theorem tb_474 : (Jvm.Cond.methodLink "NameSeeker" (118 : Nat) ({ cls := "NameSeeker$Lot", name := "has", desc := "(I)Z" } : Jvm.MethodName)) ∈ TB := tbI 474 rfl rfl
set_option maxRecDepth 100000 in
theorem tb_475 : (Jvm.Cond.instanceMethod ({ cls := "NameSeeker$Lot", name := "has", desc := "(I)Z" } : Jvm.MethodName)) ∈ TB := tbI 475 rfl rfl
set_option maxRecDepth 100000 in
theorem tb_476 : (Jvm.Cond.selects "NameSeeker$Lot" ({ cls := "NameSeeker$Lot", name := "has", desc := "(I)Z" } : Jvm.MethodName) ({ cls := "NameSeeker$Lot", name := "has", desc := "(I)Z" } : Jvm.MethodName)) ∈ TB := tbI 476 rfl rfl
set_option maxRecDepth 100000 in
theorem tb_477 : (Jvm.Cond.code ({ cls := "NameSeeker$Lot", name := "has", desc := "(I)Z" } : Jvm.MethodName) prog_5_method_2_code (2 : Nat) (Option.some Jvm.ClassFile.FieldType.boolean)) ∈ TB := tbI 477 rfl rfl
set_option maxRecDepth 100000 in
theorem tb_478 : (Jvm.Cond.methodLink "NameSeekerLaw" (36 : Nat) ({ cls := "NameSeeker", name := "sign", desc := "(II)I" } : Jvm.MethodName)) ∈ TB := tbI 478 rfl rfl
set_option maxRecDepth 100000 in
theorem tb_479 : (Jvm.Cond.instanceMethod ({ cls := "NameSeeker", name := "sign", desc := "(II)I" } : Jvm.MethodName)) ∈ TB := tbI 479 rfl rfl
set_option maxRecDepth 100000 in
theorem tb_480 : (Jvm.Cond.selects "NameSeeker" ({ cls := "NameSeeker", name := "sign", desc := "(II)I" } : Jvm.MethodName) ({ cls := "NameSeeker", name := "sign", desc := "(II)I" } : Jvm.MethodName)) ∈ TB := tbI 480 rfl rfl
set_option maxRecDepth 100000 in
theorem tb_481 : (Jvm.Cond.code ({ cls := "NameSeeker", name := "sign", desc := "(II)I" } : Jvm.MethodName) prog_1_method_7_code (4 : Nat) (Option.some Jvm.ClassFile.FieldType.int)) ∈ TB := tbI 481 rfl rfl
set_option maxRecDepth 100000 in
theorem tb_482 : (Jvm.Cond.methodLink "NameSeekerLaw" (40 : Nat) ({ cls := "NameSeeker", name := "type", desc := "(I)I" } : Jvm.MethodName)) ∈ TB := tbI 482 rfl rfl
set_option maxRecDepth 100000 in
theorem tb_483 : (Jvm.Cond.instanceMethod ({ cls := "NameSeeker", name := "type", desc := "(I)I" } : Jvm.MethodName)) ∈ TB := tbI 483 rfl rfl
set_option maxRecDepth 100000 in
theorem tb_484 : (Jvm.Cond.selects "NameSeeker" ({ cls := "NameSeeker", name := "type", desc := "(I)I" } : Jvm.MethodName) ({ cls := "NameSeeker", name := "type", desc := "(I)I" } : Jvm.MethodName)) ∈ TB := tbI 484 rfl rfl
set_option maxRecDepth 100000 in
theorem tb_485 : (Jvm.Cond.code ({ cls := "NameSeeker", name := "type", desc := "(I)I" } : Jvm.MethodName) prog_1_method_10_code (2 : Nat) (Option.some Jvm.ClassFile.FieldType.int)) ∈ TB := tbI 485 rfl rfl
set_option maxRecDepth 100000 in
theorem tb_486 : (Jvm.Cond.methodLink "NameSeeker" (183 : Nat) ({ cls := "NameSeeker$Word", name := "add", desc := "(C)V" } : Jvm.MethodName)) ∈ TB := tbI 486 rfl rfl
set_option maxRecDepth 100000 in
theorem tb_487 : (Jvm.Cond.instanceMethod ({ cls := "NameSeeker$Word", name := "add", desc := "(C)V" } : Jvm.MethodName)) ∈ TB := tbI 487 rfl rfl
set_option maxRecDepth 100000 in
theorem tb_488 : (Jvm.Cond.selects "NameSeeker$Word" ({ cls := "NameSeeker$Word", name := "add", desc := "(C)V" } : Jvm.MethodName) ({ cls := "NameSeeker$Word", name := "add", desc := "(C)V" } : Jvm.MethodName)) ∈ TB := tbI 488 rfl rfl
set_option maxRecDepth 100000 in
theorem tb_489 : (Jvm.Cond.code ({ cls := "NameSeeker$Word", name := "add", desc := "(C)V" } : Jvm.MethodName) prog_10_method_3_code (2 : Nat) (Option.none : Option Jvm.ClassFile.FieldType)) ∈ TB := tbI 489 rfl rfl
set_option maxRecDepth 100000 in
theorem tb_490 : (Jvm.Cond.methodLink "NameSeekerLaw" (44 : Nat) ({ cls := "NameSeeker", name := "untype", desc := "()I" } : Jvm.MethodName)) ∈ TB := tbI 490 rfl rfl
set_option maxRecDepth 100000 in
theorem tb_491 : (Jvm.Cond.instanceMethod ({ cls := "NameSeeker", name := "untype", desc := "()I" } : Jvm.MethodName)) ∈ TB := tbI 491 rfl rfl
set_option maxRecDepth 100000 in
theorem tb_492 : (Jvm.Cond.selects "NameSeeker" ({ cls := "NameSeeker", name := "untype", desc := "()I" } : Jvm.MethodName) ({ cls := "NameSeeker", name := "untype", desc := "()I" } : Jvm.MethodName)) ∈ TB := tbI 492 rfl rfl
set_option maxRecDepth 100000 in
theorem tb_493 : (Jvm.Cond.code ({ cls := "NameSeeker", name := "untype", desc := "()I" } : Jvm.MethodName) prog_1_method_11_code (1 : Nat) (Option.some Jvm.ClassFile.FieldType.int)) ∈ TB := tbI 493 rfl rfl
set_option maxRecDepth 100000 in
theorem tb_494 : (Jvm.Cond.methodLink "NameSeeker" (186 : Nat) ({ cls := "NameSeeker$Word", name := "removeLast", desc := "()I" } : Jvm.MethodName)) ∈ TB := tbI 494 rfl rfl
set_option maxRecDepth 100000 in
theorem tb_495 : (Jvm.Cond.instanceMethod ({ cls := "NameSeeker$Word", name := "removeLast", desc := "()I" } : Jvm.MethodName)) ∈ TB := tbI 495 rfl rfl
set_option maxRecDepth 100000 in
theorem tb_496 : (Jvm.Cond.selects "NameSeeker$Word" ({ cls := "NameSeeker$Word", name := "removeLast", desc := "()I" } : Jvm.MethodName) ({ cls := "NameSeeker$Word", name := "removeLast", desc := "()I" } : Jvm.MethodName)) ∈ TB := tbI 496 rfl rfl
set_option maxRecDepth 100000 in
theorem tb_497 : (Jvm.Cond.code ({ cls := "NameSeeker$Word", name := "removeLast", desc := "()I" } : Jvm.MethodName) prog_10_method_4_code (1 : Nat) (Option.some Jvm.ClassFile.FieldType.int)) ∈ TB := tbI 497 rfl rfl
set_option maxRecDepth 100000 in
theorem tb_498 : (Jvm.Cond.methodLink "NameSeekerLaw" (48 : Nat) ({ cls := "NameSeeker", name := "roll", desc := "()I" } : Jvm.MethodName)) ∈ TB := tbI 498 rfl rfl
set_option maxRecDepth 100000 in
theorem tb_499 : (Jvm.Cond.instanceMethod ({ cls := "NameSeeker", name := "roll", desc := "()I" } : Jvm.MethodName)) ∈ TB := tbI 499 rfl rfl
set_option maxRecDepth 100000 in
theorem tb_500 : (Jvm.Cond.selects "NameSeeker" ({ cls := "NameSeeker", name := "roll", desc := "()I" } : Jvm.MethodName) ({ cls := "NameSeeker", name := "roll", desc := "()I" } : Jvm.MethodName)) ∈ TB := tbI 500 rfl rfl
set_option maxRecDepth 100000 in
theorem tb_501 : (Jvm.Cond.code ({ cls := "NameSeeker", name := "roll", desc := "()I" } : Jvm.MethodName) prog_1_method_12_code (2 : Nat) (Option.some Jvm.ClassFile.FieldType.int)) ∈ TB := tbI 501 rfl rfl
set_option maxRecDepth 100000 in
theorem tb_503 : (Jvm.Cond.methodLink "NameSeekerLaw" (52 : Nat) ({ cls := "NameSeeker", name := "word", desc := "(I)I" } : Jvm.MethodName)) ∈ TB := tbI 503 rfl rfl
set_option maxRecDepth 100000 in
theorem tb_504 : (Jvm.Cond.instanceMethod ({ cls := "NameSeeker", name := "word", desc := "(I)I" } : Jvm.MethodName)) ∈ TB := tbI 504 rfl rfl
set_option maxRecDepth 100000 in
theorem tb_505 : (Jvm.Cond.selects "NameSeeker" ({ cls := "NameSeeker", name := "word", desc := "(I)I" } : Jvm.MethodName) ({ cls := "NameSeeker", name := "word", desc := "(I)I" } : Jvm.MethodName)) ∈ TB := tbI 505 rfl rfl
set_option maxRecDepth 100000 in
theorem tb_506 : (Jvm.Cond.code ({ cls := "NameSeeker", name := "word", desc := "(I)I" } : Jvm.MethodName) prog_1_method_13_code (2 : Nat) (Option.some Jvm.ClassFile.FieldType.int)) ∈ TB := tbI 506 rfl rfl
set_option maxRecDepth 100000 in
theorem tb_507 : (Jvm.Cond.methodLink "NameSeekerLaw" (56 : Nat) ({ cls := "NameSeeker", name := "pick", desc := "(I)I" } : Jvm.MethodName)) ∈ TB := tbI 507 rfl rfl
set_option maxRecDepth 100000 in
theorem tb_508 : (Jvm.Cond.instanceMethod ({ cls := "NameSeeker", name := "pick", desc := "(I)I" } : Jvm.MethodName)) ∈ TB := tbI 508 rfl rfl
set_option maxRecDepth 100000 in
theorem tb_509 : (Jvm.Cond.selects "NameSeeker" ({ cls := "NameSeeker", name := "pick", desc := "(I)I" } : Jvm.MethodName) ({ cls := "NameSeeker", name := "pick", desc := "(I)I" } : Jvm.MethodName)) ∈ TB := tbI 509 rfl rfl
set_option maxRecDepth 100000 in
theorem tb_510 : (Jvm.Cond.code ({ cls := "NameSeeker", name := "pick", desc := "(I)I" } : Jvm.MethodName) prog_1_method_14_code (2 : Nat) (Option.some Jvm.ClassFile.FieldType.int)) ∈ TB := tbI 510 rfl rfl
set_option maxRecDepth 100000 in
theorem tb_511 : (Jvm.Cond.methodLink "NameSeekerLaw" (60 : Nat) ({ cls := "NameSeeker", name := "forget", desc := "(I)I" } : Jvm.MethodName)) ∈ TB := tbI 511 rfl rfl
set_option maxRecDepth 100000 in
theorem tb_512 : (Jvm.Cond.instanceMethod ({ cls := "NameSeeker", name := "forget", desc := "(I)I" } : Jvm.MethodName)) ∈ TB := tbI 512 rfl rfl
set_option maxRecDepth 100000 in
theorem tb_513 : (Jvm.Cond.selects "NameSeeker" ({ cls := "NameSeeker", name := "forget", desc := "(I)I" } : Jvm.MethodName) ({ cls := "NameSeeker", name := "forget", desc := "(I)I" } : Jvm.MethodName)) ∈ TB := tbI 513 rfl rfl
set_option maxRecDepth 100000 in
theorem tb_514 : (Jvm.Cond.code ({ cls := "NameSeeker", name := "forget", desc := "(I)I" } : Jvm.MethodName) prog_1_method_15_code (3 : Nat) (Option.some Jvm.ClassFile.FieldType.int)) ∈ TB := tbI 514 rfl rfl
set_option maxRecDepth 100000 in
theorem tb_515 : (Jvm.Cond.methodLink "NameSeekerLaw" (64 : Nat) ({ cls := "NameSeeker", name := "drop", desc := "(I)I" } : Jvm.MethodName)) ∈ TB := tbI 515 rfl rfl
set_option maxRecDepth 100000 in
theorem tb_516 : (Jvm.Cond.instanceMethod ({ cls := "NameSeeker", name := "drop", desc := "(I)I" } : Jvm.MethodName)) ∈ TB := tbI 516 rfl rfl
set_option maxRecDepth 100000 in
theorem tb_517 : (Jvm.Cond.selects "NameSeeker" ({ cls := "NameSeeker", name := "drop", desc := "(I)I" } : Jvm.MethodName) ({ cls := "NameSeeker", name := "drop", desc := "(I)I" } : Jvm.MethodName)) ∈ TB := tbI 517 rfl rfl
set_option maxRecDepth 100000 in
theorem tb_518 : (Jvm.Cond.code ({ cls := "NameSeeker", name := "drop", desc := "(I)I" } : Jvm.MethodName) prog_1_method_16_code (2 : Nat) (Option.some Jvm.ClassFile.FieldType.int)) ∈ TB := tbI 518 rfl rfl
set_option maxRecDepth 100000 in
theorem tb_519 : (Jvm.Cond.methodLink "NameSeeker" (193 : Nat) ({ cls := "NameSeeker$Lot", name := "remove", desc := "(I)V" } : Jvm.MethodName)) ∈ TB := tbI 519 rfl rfl
set_option maxRecDepth 100000 in
theorem tb_520 : (Jvm.Cond.instanceMethod ({ cls := "NameSeeker$Lot", name := "remove", desc := "(I)V" } : Jvm.MethodName)) ∈ TB := tbI 520 rfl rfl
set_option maxRecDepth 100000 in
theorem tb_521 : (Jvm.Cond.selects "NameSeeker$Lot" ({ cls := "NameSeeker$Lot", name := "remove", desc := "(I)V" } : Jvm.MethodName) ({ cls := "NameSeeker$Lot", name := "remove", desc := "(I)V" } : Jvm.MethodName)) ∈ TB := tbI 521 rfl rfl
set_option maxRecDepth 100000 in
theorem tb_522 : (Jvm.Cond.code ({ cls := "NameSeeker$Lot", name := "remove", desc := "(I)V" } : Jvm.MethodName) prog_5_method_5_code (4 : Nat) (Option.none : Option Jvm.ClassFile.FieldType)) ∈ TB := tbI 522 rfl rfl
set_option maxRecDepth 100000 in
theorem tb_523 : (Jvm.Cond.methodLink "NameSeekerLaw" (68 : Nat) ({ cls := "NameSeeker", name := "rename", desc := "(II)I" } : Jvm.MethodName)) ∈ TB := tbI 523 rfl rfl
set_option maxRecDepth 100000 in
theorem tb_524 : (Jvm.Cond.instanceMethod ({ cls := "NameSeeker", name := "rename", desc := "(II)I" } : Jvm.MethodName)) ∈ TB := tbI 524 rfl rfl
set_option maxRecDepth 100000 in
theorem tb_525 : (Jvm.Cond.selects "NameSeeker" ({ cls := "NameSeeker", name := "rename", desc := "(II)I" } : Jvm.MethodName) ({ cls := "NameSeeker", name := "rename", desc := "(II)I" } : Jvm.MethodName)) ∈ TB := tbI 525 rfl rfl
set_option maxRecDepth 100000 in
theorem tb_526 : (Jvm.Cond.code ({ cls := "NameSeeker", name := "rename", desc := "(II)I" } : Jvm.MethodName) prog_1_method_17_code (4 : Nat) (Option.some Jvm.ClassFile.FieldType.int)) ∈ TB := tbI 526 rfl rfl
set_option maxRecDepth 100000 in
theorem tb_527 : (Jvm.Cond.methodLink "NameSeekerLaw" (72 : Nat) ({ cls := "NameSeeker", name := "worth", desc := "(III)I" } : Jvm.MethodName)) ∈ TB := tbI 527 rfl rfl
set_option maxRecDepth 100000 in
theorem tb_528 : (Jvm.Cond.instanceMethod ({ cls := "NameSeeker", name := "worth", desc := "(III)I" } : Jvm.MethodName)) ∈ TB := tbI 528 rfl rfl
set_option maxRecDepth 100000 in
theorem tb_529 : (Jvm.Cond.selects "NameSeeker" ({ cls := "NameSeeker", name := "worth", desc := "(III)I" } : Jvm.MethodName) ({ cls := "NameSeeker", name := "worth", desc := "(III)I" } : Jvm.MethodName)) ∈ TB := tbI 529 rfl rfl
set_option maxRecDepth 100000 in
theorem tb_530 : (Jvm.Cond.code ({ cls := "NameSeeker", name := "worth", desc := "(III)I" } : Jvm.MethodName) prog_1_method_18_code (4 : Nat) (Option.some Jvm.ClassFile.FieldType.int)) ∈ TB := tbI 530 rfl rfl
set_option maxRecDepth 100000 in
theorem tb_531 : (Jvm.Cond.methodLink "NameSeeker" (196 : Nat) ({ cls := "NameSeeker$Scales", name := "mayBe", desc := "(I)Z" } : Jvm.MethodName)) ∈ TB := tbI 531 rfl rfl
set_option maxRecDepth 100000 in
theorem tb_532 : (Jvm.Cond.static ({ cls := "NameSeeker$Scales", name := "mayBe", desc := "(I)Z" } : Jvm.MethodName)) ∈ TB := tbI 532 rfl rfl
set_option maxRecDepth 100000 in
theorem tb_533 : (Jvm.Cond.code ({ cls := "NameSeeker$Scales", name := "mayBe", desc := "(I)Z" } : Jvm.MethodName) prog_8_method_2_code (1 : Nat) (Option.some Jvm.ClassFile.FieldType.boolean)) ∈ TB := tbI 533 rfl rfl
set_option maxRecDepth 100000 in
theorem tb_534 : (Jvm.Cond.methodLink "NameSeeker" (199 : Nat) ({ cls := "NameSeeker$Scales", name := "are", desc := "(III)Z" } : Jvm.MethodName)) ∈ TB := tbI 534 rfl rfl
set_option maxRecDepth 100000 in
theorem tb_535 : (Jvm.Cond.instanceMethod ({ cls := "NameSeeker$Scales", name := "are", desc := "(III)Z" } : Jvm.MethodName)) ∈ TB := tbI 535 rfl rfl
set_option maxRecDepth 100000 in
theorem tb_536 : (Jvm.Cond.selects "NameSeeker$Scales" ({ cls := "NameSeeker$Scales", name := "are", desc := "(III)Z" } : Jvm.MethodName) ({ cls := "NameSeeker$Scales", name := "are", desc := "(III)Z" } : Jvm.MethodName)) ∈ TB := tbI 536 rfl rfl
set_option maxRecDepth 100000 in
theorem tb_537 : (Jvm.Cond.code ({ cls := "NameSeeker$Scales", name := "are", desc := "(III)Z" } : Jvm.MethodName) prog_8_method_5_code (4 : Nat) (Option.some Jvm.ClassFile.FieldType.boolean)) ∈ TB := tbI 537 rfl rfl
set_option maxRecDepth 100000 in
theorem tb_538 : (Jvm.Cond.methodLink "NameSeekerLaw" (77 : Nat) ({ cls := "NameSeeker", name := "score", desc := "(I)I" } : Jvm.MethodName)) ∈ TB := tbI 538 rfl rfl
set_option maxRecDepth 100000 in
theorem tb_539 : (Jvm.Cond.instanceMethod ({ cls := "NameSeeker", name := "score", desc := "(I)I" } : Jvm.MethodName)) ∈ TB := tbI 539 rfl rfl
set_option maxRecDepth 100000 in
theorem tb_540 : (Jvm.Cond.selects "NameSeeker" ({ cls := "NameSeeker", name := "score", desc := "(I)I" } : Jvm.MethodName) ({ cls := "NameSeeker", name := "score", desc := "(I)I" } : Jvm.MethodName)) ∈ TB := tbI 540 rfl rfl
set_option maxRecDepth 100000 in
theorem tb_541 : (Jvm.Cond.code ({ cls := "NameSeeker", name := "score", desc := "(I)I" } : Jvm.MethodName) prog_1_method_19_code (2 : Nat) (Option.some Jvm.ClassFile.FieldType.int)) ∈ TB := tbI 541 rfl rfl
set_option maxRecDepth 100000 in
theorem tb_542 : (Jvm.Cond.methodLink "NameSeeker" (203 : Nat) ({ cls := "NameSeeker", name := "seekScore", desc := "(LNameSeeker$Name;)I" } : Jvm.MethodName)) ∈ TB := tbI 542 rfl rfl
set_option maxRecDepth 100000 in
theorem tb_544 : (Jvm.Cond.instanceMethod ({ cls := "NameSeeker", name := "seekScore", desc := "(LNameSeeker$Name;)I" } : Jvm.MethodName)) ∈ TB := tbI 544 rfl rfl
set_option maxRecDepth 100000 in
theorem tb_545 : (Jvm.Cond.code ({ cls := "NameSeeker", name := "seekScore", desc := "(LNameSeeker$Name;)I" } : Jvm.MethodName) prog_1_method_27_code (6 : Nat) (Option.some Jvm.ClassFile.FieldType.int)) ∈ TB := tbI 545 rfl rfl
set_option maxRecDepth 100000 in
theorem tb_546 : (Jvm.Cond.methodLink "NameSeeker" (214 : Nat) ({ cls := "NameSeeker$Word", name := "code", desc := "()J" } : Jvm.MethodName)) ∈ TB := tbI 546 rfl rfl
set_option maxRecDepth 100000 in
theorem tb_547 : (Jvm.Cond.instanceMethod ({ cls := "NameSeeker$Word", name := "code", desc := "()J" } : Jvm.MethodName)) ∈ TB := tbI 547 rfl rfl
set_option maxRecDepth 100000 in
theorem tb_548 : (Jvm.Cond.selects "NameSeeker$Word" ({ cls := "NameSeeker$Word", name := "code", desc := "()J" } : Jvm.MethodName) ({ cls := "NameSeeker$Word", name := "code", desc := "()J" } : Jvm.MethodName)) ∈ TB := tbI 548 rfl rfl
set_option maxRecDepth 100000 in
theorem tb_549 : (Jvm.Cond.code ({ cls := "NameSeeker$Word", name := "code", desc := "()J" } : Jvm.MethodName) prog_10_method_6_code (5 : Nat) (Option.some Jvm.ClassFile.FieldType.long)) ∈ TB := tbI 549 rfl rfl
set_option maxRecDepth 100000 in
theorem tb_551 : (Jvm.Cond.constantLong "NameSeeker$Word" (23 : Nat) (53 : Int64)) ∈ TB := tbI 551 rfl rfl
set_option maxRecDepth 100000 in
theorem tb_553 : (Jvm.Cond.methodLink "NameSeeker" (259 : Nat) ({ cls := "NameSeeker$Known", name := "placeOf", desc := "(IJI)I" } : Jvm.MethodName)) ∈ TB := tbI 553 rfl rfl
set_option maxRecDepth 100000 in
theorem tb_554 : (Jvm.Cond.static ({ cls := "NameSeeker$Known", name := "placeOf", desc := "(IJI)I" } : Jvm.MethodName)) ∈ TB := tbI 554 rfl rfl
set_option maxRecDepth 100000 in
theorem tb_555 : (Jvm.Cond.code ({ cls := "NameSeeker$Known", name := "placeOf", desc := "(IJI)I" } : Jvm.MethodName) prog_3_method_2_code (4 : Nat) (Option.some Jvm.ClassFile.FieldType.int)) ∈ TB := tbI 555 rfl rfl
set_option maxRecDepth 100000 in
theorem tb_556 : (Jvm.Cond.constantLong "NameSeeker$Known" (32 : Nat) (31 : Int64)) ∈ TB := tbI 556 rfl rfl
set_option maxRecDepth 100000 in
theorem tb_557 : (Jvm.Cond.constantLong "NameSeeker$Known" (34 : Nat) (7 : Int64)) ∈ TB := tbI 557 rfl rfl
set_option maxRecDepth 100000 in
theorem tb_558 : (Jvm.Cond.methodLink "NameSeeker" (263 : Nat) ({ cls := "NameSeeker$Known", name := "holds", desc := "(IIJI)Z" } : Jvm.MethodName)) ∈ TB := tbI 558 rfl rfl
set_option maxRecDepth 100000 in
theorem tb_559 : (Jvm.Cond.instanceMethod ({ cls := "NameSeeker$Known", name := "holds", desc := "(IIJI)Z" } : Jvm.MethodName)) ∈ TB := tbI 559 rfl rfl
set_option maxRecDepth 100000 in
theorem tb_560 : (Jvm.Cond.selects "NameSeeker$Known" ({ cls := "NameSeeker$Known", name := "holds", desc := "(IIJI)Z" } : Jvm.MethodName) ({ cls := "NameSeeker$Known", name := "holds", desc := "(IIJI)Z" } : Jvm.MethodName)) ∈ TB := tbI 560 rfl rfl
set_option maxRecDepth 100000 in
theorem tb_561 : (Jvm.Cond.code ({ cls := "NameSeeker$Known", name := "holds", desc := "(IIJI)Z" } : Jvm.MethodName) prog_3_method_3_code (6 : Nat) (Option.some Jvm.ClassFile.FieldType.boolean)) ∈ TB := tbI 561 rfl rfl
set_option maxRecDepth 100000 in
theorem tb_562 : (Jvm.Cond.methodLink "NameSeeker" (226 : Nat) ({ cls := "NameSeeker$Laying", name := "workOut", desc := "(LNameSeeker$Name;LNameSeeker$Word;LNameSeeker$Scales;)I" } : Jvm.MethodName)) ∈ TB := tbI 562 rfl rfl
set_option maxRecDepth 100000 in
theorem tb_563 : (Jvm.Cond.instanceMethod ({ cls := "NameSeeker$Laying", name := "workOut", desc := "(LNameSeeker$Name;LNameSeeker$Word;LNameSeeker$Scales;)I" } : Jvm.MethodName)) ∈ TB := tbI 563 rfl rfl
set_option maxRecDepth 100000 in
theorem tb_564 : (Jvm.Cond.selects "NameSeeker$Laying" ({ cls := "NameSeeker$Laying", name := "workOut", desc := "(LNameSeeker$Name;LNameSeeker$Word;LNameSeeker$Scales;)I" } : Jvm.MethodName) ({ cls := "NameSeeker$Laying", name := "workOut", desc := "(LNameSeeker$Name;LNameSeeker$Word;LNameSeeker$Scales;)I" } : Jvm.MethodName)) ∈ TB := tbI 564 rfl rfl
set_option maxRecDepth 100000 in
theorem tb_565 : (Jvm.Cond.code ({ cls := "NameSeeker$Laying", name := "workOut", desc := "(LNameSeeker$Name;LNameSeeker$Word;LNameSeeker$Scales;)I" } : Jvm.MethodName) prog_4_method_2_code (6 : Nat) (Option.some Jvm.ClassFile.FieldType.int)) ∈ TB := tbI 565 rfl rfl
set_option maxRecDepth 100000 in
theorem tb_566 : (Jvm.Cond.methodLink "NameSeeker$Laying" (32 : Nat) ({ cls := "NameSeeker$Laying", name := "workOutLetter", desc := "(LNameSeeker$Name;LNameSeeker$Word;ILNameSeeker$Scales;)V" } : Jvm.MethodName)) ∈ TB := tbI 566 rfl rfl
set_option maxRecDepth 100000 in
theorem tb_568 : (Jvm.Cond.instanceMethod ({ cls := "NameSeeker$Laying", name := "workOutLetter", desc := "(LNameSeeker$Name;LNameSeeker$Word;ILNameSeeker$Scales;)V" } : Jvm.MethodName)) ∈ TB := tbI 568 rfl rfl
set_option maxRecDepth 100000 in
theorem tb_569 : (Jvm.Cond.code ({ cls := "NameSeeker$Laying", name := "workOutLetter", desc := "(LNameSeeker$Name;LNameSeeker$Word;ILNameSeeker$Scales;)V" } : Jvm.MethodName) prog_4_method_3_code (6 : Nat) (Option.none : Option Jvm.ClassFile.FieldType)) ∈ TB := tbI 569 rfl rfl
set_option maxRecDepth 100000 in
theorem tb_570 : (Jvm.Cond.methodLink "NameSeeker$Laying" (43 : Nat) ({ cls := "NameSeeker$Name", name := "isAlike", desc := "(IC)Z" } : Jvm.MethodName)) ∈ TB := tbI 570 rfl rfl
set_option maxRecDepth 100000 in
theorem tb_571 : (Jvm.Cond.instanceMethod ({ cls := "NameSeeker$Name", name := "isAlike", desc := "(IC)Z" } : Jvm.MethodName)) ∈ TB := tbI 571 rfl rfl
set_option maxRecDepth 100000 in
theorem tb_572 : (Jvm.Cond.selects "NameSeeker$Name" ({ cls := "NameSeeker$Name", name := "isAlike", desc := "(IC)Z" } : Jvm.MethodName) ({ cls := "NameSeeker$Name", name := "isAlike", desc := "(IC)Z" } : Jvm.MethodName)) ∈ TB := tbI 572 rfl rfl
set_option maxRecDepth 100000 in
theorem tb_573 : (Jvm.Cond.code ({ cls := "NameSeeker$Name", name := "isAlike", desc := "(IC)Z" } : Jvm.MethodName) prog_6_method_5_code (4 : Nat) (Option.some Jvm.ClassFile.FieldType.boolean)) ∈ TB := tbI 573 rfl rfl
set_option maxRecDepth 100000 in
theorem tb_574 : (Jvm.Cond.methodLink "NameSeeker$Laying" (47 : Nat) ({ cls := "NameSeeker$Scales", name := "ofPlace", desc := "(LNameSeeker$Name;I)I" } : Jvm.MethodName)) ∈ TB := tbI 574 rfl rfl
set_option maxRecDepth 100000 in
theorem tb_575 : (Jvm.Cond.instanceMethod ({ cls := "NameSeeker$Scales", name := "ofPlace", desc := "(LNameSeeker$Name;I)I" } : Jvm.MethodName)) ∈ TB := tbI 575 rfl rfl
set_option maxRecDepth 100000 in
theorem tb_576 : (Jvm.Cond.selects "NameSeeker$Scales" ({ cls := "NameSeeker$Scales", name := "ofPlace", desc := "(LNameSeeker$Name;I)I" } : Jvm.MethodName) ({ cls := "NameSeeker$Scales", name := "ofPlace", desc := "(LNameSeeker$Name;I)I" } : Jvm.MethodName)) ∈ TB := tbI 576 rfl rfl
set_option maxRecDepth 100000 in
theorem tb_577 : (Jvm.Cond.code ({ cls := "NameSeeker$Scales", name := "ofPlace", desc := "(LNameSeeker$Name;I)I" } : Jvm.MethodName) prog_8_method_6_code (4 : Nat) (Option.some Jvm.ClassFile.FieldType.int)) ∈ TB := tbI 577 rfl rfl
set_option maxRecDepth 100000 in
theorem tb_578 : (Jvm.Cond.methodLink "NameSeeker$Laying" (53 : Nat) ({ cls := "NameSeeker$Laying", name := "workOutNext", desc := "(LNameSeeker$Name;IILNameSeeker$Scales;)V" } : Jvm.MethodName)) ∈ TB := tbI 578 rfl rfl
set_option maxRecDepth 100000 in
theorem tb_580 : (Jvm.Cond.instanceMethod ({ cls := "NameSeeker$Laying", name := "workOutNext", desc := "(LNameSeeker$Name;IILNameSeeker$Scales;)V" } : Jvm.MethodName)) ∈ TB := tbI 580 rfl rfl
set_option maxRecDepth 100000 in
theorem tb_581 : (Jvm.Cond.code ({ cls := "NameSeeker$Laying", name := "workOutNext", desc := "(LNameSeeker$Name;IILNameSeeker$Scales;)V" } : Jvm.MethodName) prog_4_method_4_code (9 : Nat) (Option.none : Option Jvm.ClassFile.FieldType)) ∈ TB := tbI 581 rfl rfl
set_option maxRecDepth 100000 in
theorem tb_582 : (Jvm.Cond.methodLink "NameSeeker$Laying" (57 : Nat) ({ cls := "NameSeeker$Scales", name := "ofStep", desc := "(LNameSeeker$Name;II)I" } : Jvm.MethodName)) ∈ TB := tbI 582 rfl rfl
set_option maxRecDepth 100000 in
theorem tb_583 : (Jvm.Cond.instanceMethod ({ cls := "NameSeeker$Scales", name := "ofStep", desc := "(LNameSeeker$Name;II)I" } : Jvm.MethodName)) ∈ TB := tbI 583 rfl rfl
set_option maxRecDepth 100000 in
theorem tb_584 : (Jvm.Cond.selects "NameSeeker$Scales" ({ cls := "NameSeeker$Scales", name := "ofStep", desc := "(LNameSeeker$Name;II)I" } : Jvm.MethodName) ({ cls := "NameSeeker$Scales", name := "ofStep", desc := "(LNameSeeker$Name;II)I" } : Jvm.MethodName)) ∈ TB := tbI 584 rfl rfl
set_option maxRecDepth 100000 in
theorem tb_585 : (Jvm.Cond.code ({ cls := "NameSeeker$Scales", name := "ofStep", desc := "(LNameSeeker$Name;II)I" } : Jvm.MethodName) prog_8_method_7_code (4 : Nat) (Option.some Jvm.ClassFile.FieldType.int)) ∈ TB := tbI 585 rfl rfl
set_option maxRecDepth 100000 in
theorem tb_586 : (Jvm.Cond.methodLink "NameSeeker" (276 : Nat) ({ cls := "NameSeeker$Known", name := "put", desc := "(IIJII)V" } : Jvm.MethodName)) ∈ TB := tbI 586 rfl rfl
set_option maxRecDepth 100000 in
theorem tb_587 : (Jvm.Cond.instanceMethod ({ cls := "NameSeeker$Known", name := "put", desc := "(IIJII)V" } : Jvm.MethodName)) ∈ TB := tbI 587 rfl rfl
set_option maxRecDepth 100000 in
theorem tb_588 : (Jvm.Cond.selects "NameSeeker$Known" ({ cls := "NameSeeker$Known", name := "put", desc := "(IIJII)V" } : Jvm.MethodName) ({ cls := "NameSeeker$Known", name := "put", desc := "(IIJII)V" } : Jvm.MethodName)) ∈ TB := tbI 588 rfl rfl
set_option maxRecDepth 100000 in
theorem tb_589 : (Jvm.Cond.code ({ cls := "NameSeeker$Known", name := "put", desc := "(IIJII)V" } : Jvm.MethodName) prog_3_method_4_code (7 : Nat) (Option.none : Option Jvm.ClassFile.FieldType)) ∈ TB := tbI 589 rfl rfl
set_option maxRecDepth 100000 in
theorem tb_590 : (Jvm.Cond.methodLink "NameSeekerLaw" (81 : Nat) ({ cls := "NameSeeker", name := "list", desc := "(I)I" } : Jvm.MethodName)) ∈ TB := tbI 590 rfl rfl
set_option maxRecDepth 100000 in
theorem tb_591 : (Jvm.Cond.instanceMethod ({ cls := "NameSeeker", name := "list", desc := "(I)I" } : Jvm.MethodName)) ∈ TB := tbI 591 rfl rfl
set_option maxRecDepth 100000 in
theorem tb_592 : (Jvm.Cond.selects "NameSeeker" ({ cls := "NameSeeker", name := "list", desc := "(I)I" } : Jvm.MethodName) ({ cls := "NameSeeker", name := "list", desc := "(I)I" } : Jvm.MethodName)) ∈ TB := tbI 592 rfl rfl
set_option maxRecDepth 100000 in
theorem tb_593 : (Jvm.Cond.code ({ cls := "NameSeeker", name := "list", desc := "(I)I" } : Jvm.MethodName) prog_1_method_20_code (2 : Nat) (Option.some Jvm.ClassFile.FieldType.int)) ∈ TB := tbI 593 rfl rfl
set_option maxRecDepth 100000 in
theorem tb_594 : (Jvm.Cond.methodLink "NameSeeker" (207 : Nat) ({ cls := "NameSeeker", name := "seekScores", desc := "()V" } : Jvm.MethodName)) ∈ TB := tbI 594 rfl rfl
set_option maxRecDepth 100000 in
theorem tb_596 : (Jvm.Cond.instanceMethod ({ cls := "NameSeeker", name := "seekScores", desc := "()V" } : Jvm.MethodName)) ∈ TB := tbI 596 rfl rfl
set_option maxRecDepth 100000 in
theorem tb_597 : (Jvm.Cond.code ({ cls := "NameSeeker", name := "seekScores", desc := "()V" } : Jvm.MethodName) prog_1_method_28_code (2 : Nat) (Option.none : Option Jvm.ClassFile.FieldType)) ∈ TB := tbI 597 rfl rfl
set_option maxRecDepth 100000 in
theorem tb_598 : (Jvm.Cond.methodLink "NameSeeker" (237 : Nat) ({ cls := "NameSeeker$Name", name := "hasAll", desc := "(LNameSeeker$Word;)Z" } : Jvm.MethodName)) ∈ TB := tbI 598 rfl rfl
set_option maxRecDepth 100000 in
theorem tb_599 : (Jvm.Cond.instanceMethod ({ cls := "NameSeeker$Name", name := "hasAll", desc := "(LNameSeeker$Word;)Z" } : Jvm.MethodName)) ∈ TB := tbI 599 rfl rfl
set_option maxRecDepth 100000 in
theorem tb_600 : (Jvm.Cond.selects "NameSeeker$Name" ({ cls := "NameSeeker$Name", name := "hasAll", desc := "(LNameSeeker$Word;)Z" } : Jvm.MethodName) ({ cls := "NameSeeker$Name", name := "hasAll", desc := "(LNameSeeker$Word;)Z" } : Jvm.MethodName)) ∈ TB := tbI 600 rfl rfl
set_option maxRecDepth 100000 in
theorem tb_601 : (Jvm.Cond.code ({ cls := "NameSeeker$Name", name := "hasAll", desc := "(LNameSeeker$Word;)Z" } : Jvm.MethodName) prog_6_method_6_code (2 : Nat) (Option.some Jvm.ClassFile.FieldType.boolean)) ∈ TB := tbI 601 rfl rfl
set_option maxRecDepth 100000 in
theorem tb_602 : (Jvm.Cond.methodLink "NameSeeker$Name" (52 : Nat) ({ cls := "NameSeeker$Word", name := "letterBits", desc := "()I" } : Jvm.MethodName)) ∈ TB := tbI 602 rfl rfl
set_option maxRecDepth 100000 in
theorem tb_603 : (Jvm.Cond.instanceMethod ({ cls := "NameSeeker$Word", name := "letterBits", desc := "()I" } : Jvm.MethodName)) ∈ TB := tbI 603 rfl rfl
set_option maxRecDepth 100000 in
theorem tb_604 : (Jvm.Cond.selects "NameSeeker$Word" ({ cls := "NameSeeker$Word", name := "letterBits", desc := "()I" } : Jvm.MethodName) ({ cls := "NameSeeker$Word", name := "letterBits", desc := "()I" } : Jvm.MethodName)) ∈ TB := tbI 604 rfl rfl
set_option maxRecDepth 100000 in
theorem tb_605 : (Jvm.Cond.code ({ cls := "NameSeeker$Word", name := "letterBits", desc := "()I" } : Jvm.MethodName) prog_10_method_7_code (3 : Nat) (Option.some Jvm.ClassFile.FieldType.int)) ∈ TB := tbI 605 rfl rfl
set_option maxRecDepth 100000 in
theorem tb_606 : (Jvm.Cond.methodLink "NameSeeker" (210 : Nat) ({ cls := "NameSeeker$Ranking", name := "rank", desc := "(LNameSeeker$Lot;)V" } : Jvm.MethodName)) ∈ TB := tbI 606 rfl rfl
set_option maxRecDepth 100000 in
theorem tb_607 : (Jvm.Cond.instanceMethod ({ cls := "NameSeeker$Ranking", name := "rank", desc := "(LNameSeeker$Lot;)V" } : Jvm.MethodName)) ∈ TB := tbI 607 rfl rfl
set_option maxRecDepth 100000 in
theorem tb_608 : (Jvm.Cond.selects "NameSeeker$Ranking" ({ cls := "NameSeeker$Ranking", name := "rank", desc := "(LNameSeeker$Lot;)V" } : Jvm.MethodName) ({ cls := "NameSeeker$Ranking", name := "rank", desc := "(LNameSeeker$Lot;)V" } : Jvm.MethodName)) ∈ TB := tbI 608 rfl rfl
set_option maxRecDepth 100000 in
theorem tb_609 : (Jvm.Cond.code ({ cls := "NameSeeker$Ranking", name := "rank", desc := "(LNameSeeker$Lot;)V" } : Jvm.MethodName) prog_7_method_2_code (3 : Nat) (Option.none : Option Jvm.ClassFile.FieldType)) ∈ TB := tbI 609 rfl rfl
set_option maxRecDepth 100000 in
theorem tb_610 : (Jvm.Cond.methodLink "NameSeeker$Ranking" (25 : Nat) ({ cls := "NameSeeker$Ranking", name := "insert", desc := "(LNameSeeker$Lot;I)V" } : Jvm.MethodName)) ∈ TB := tbI 610 rfl rfl
set_option maxRecDepth 100000 in
theorem tb_612 : (Jvm.Cond.instanceMethod ({ cls := "NameSeeker$Ranking", name := "insert", desc := "(LNameSeeker$Lot;I)V" } : Jvm.MethodName)) ∈ TB := tbI 612 rfl rfl
set_option maxRecDepth 100000 in
theorem tb_613 : (Jvm.Cond.code ({ cls := "NameSeeker$Ranking", name := "insert", desc := "(LNameSeeker$Lot;I)V" } : Jvm.MethodName) prog_7_method_3_code (4 : Nat) (Option.none : Option Jvm.ClassFile.FieldType)) ∈ TB := tbI 613 rfl rfl
set_option maxRecDepth 100000 in
theorem tb_614 : (Jvm.Cond.methodLink "NameSeeker$Ranking" (29 : Nat) ({ cls := "NameSeeker$Ranking", name := "isAhead", desc := "(LNameSeeker$Lot;II)Z" } : Jvm.MethodName)) ∈ TB := tbI 614 rfl rfl
set_option maxRecDepth 100000 in
theorem tb_616 : (Jvm.Cond.instanceMethod ({ cls := "NameSeeker$Ranking", name := "isAhead", desc := "(LNameSeeker$Lot;II)Z" } : Jvm.MethodName)) ∈ TB := tbI 616 rfl rfl
set_option maxRecDepth 100000 in
theorem tb_617 : (Jvm.Cond.code ({ cls := "NameSeeker$Ranking", name := "isAhead", desc := "(LNameSeeker$Lot;II)Z" } : Jvm.MethodName) prog_7_method_5_code (6 : Nat) (Option.some Jvm.ClassFile.FieldType.boolean)) ∈ TB := tbI 617 rfl rfl
set_option maxRecDepth 100000 in
theorem tb_618 : (Jvm.Cond.methodLink "NameSeeker" (218 : Nat) ({ cls := "NameSeeker$Asked", name := "add", desc := "(J)V" } : Jvm.MethodName)) ∈ TB := tbI 618 rfl rfl
set_option maxRecDepth 100000 in
theorem tb_619 : (Jvm.Cond.instanceMethod ({ cls := "NameSeeker$Asked", name := "add", desc := "(J)V" } : Jvm.MethodName)) ∈ TB := tbI 619 rfl rfl
set_option maxRecDepth 100000 in
theorem tb_620 : (Jvm.Cond.selects "NameSeeker$Asked" ({ cls := "NameSeeker$Asked", name := "add", desc := "(J)V" } : Jvm.MethodName) ({ cls := "NameSeeker$Asked", name := "add", desc := "(J)V" } : Jvm.MethodName)) ∈ TB := tbI 620 rfl rfl
set_option maxRecDepth 100000 in
theorem tb_621 : (Jvm.Cond.code ({ cls := "NameSeeker$Asked", name := "add", desc := "(J)V" } : Jvm.MethodName) prog_2_method_2_code (4 : Nat) (Option.none : Option Jvm.ClassFile.FieldType)) ∈ TB := tbI 621 rfl rfl
set_option maxRecDepth 100000 in
theorem tb_625 : (Jvm.Cond.methodLink "NameSeekerLaw" (85 : Nat) ({ cls := "NameSeeker", name := "best", desc := "(II)I" } : Jvm.MethodName)) ∈ TB := tbI 625 rfl rfl
set_option maxRecDepth 100000 in
theorem tb_626 : (Jvm.Cond.instanceMethod ({ cls := "NameSeeker", name := "best", desc := "(II)I" } : Jvm.MethodName)) ∈ TB := tbI 626 rfl rfl
set_option maxRecDepth 100000 in
theorem tb_627 : (Jvm.Cond.selects "NameSeeker" ({ cls := "NameSeeker", name := "best", desc := "(II)I" } : Jvm.MethodName) ({ cls := "NameSeeker", name := "best", desc := "(II)I" } : Jvm.MethodName)) ∈ TB := tbI 627 rfl rfl
set_option maxRecDepth 100000 in
theorem tb_628 : (Jvm.Cond.code ({ cls := "NameSeeker", name := "best", desc := "(II)I" } : Jvm.MethodName) prog_1_method_21_code (3 : Nat) (Option.some Jvm.ClassFile.FieldType.int)) ∈ TB := tbI 628 rfl rfl
set_option maxRecDepth 100000 in
theorem tb_629 : (Jvm.Cond.methodLink "NameSeeker" (230 : Nat) ({ cls := "NameSeeker$Laying", name := "bestPlace", desc := "(I)I" } : Jvm.MethodName)) ∈ TB := tbI 629 rfl rfl
set_option maxRecDepth 100000 in
theorem tb_630 : (Jvm.Cond.instanceMethod ({ cls := "NameSeeker$Laying", name := "bestPlace", desc := "(I)I" } : Jvm.MethodName)) ∈ TB := tbI 630 rfl rfl
set_option maxRecDepth 100000 in
theorem tb_631 : (Jvm.Cond.selects "NameSeeker$Laying" ({ cls := "NameSeeker$Laying", name := "bestPlace", desc := "(I)I" } : Jvm.MethodName) ({ cls := "NameSeeker$Laying", name := "bestPlace", desc := "(I)I" } : Jvm.MethodName)) ∈ TB := tbI 631 rfl rfl
set_option maxRecDepth 100000 in
theorem tb_632 : (Jvm.Cond.code ({ cls := "NameSeeker$Laying", name := "bestPlace", desc := "(I)I" } : Jvm.MethodName) prog_4_method_5_code (4 : Nat) (Option.some Jvm.ClassFile.FieldType.int)) ∈ TB := tbI 632 rfl rfl
set_option maxRecDepth 100000 in
theorem tb_633 : (Jvm.Cond.methodLink "NameSeekerLaw" (89 : Nat) ({ cls := "NameSeeker", name := "ways", desc := "(I)I" } : Jvm.MethodName)) ∈ TB := tbI 633 rfl rfl
set_option maxRecDepth 100000 in
theorem tb_634 : (Jvm.Cond.instanceMethod ({ cls := "NameSeeker", name := "ways", desc := "(I)I" } : Jvm.MethodName)) ∈ TB := tbI 634 rfl rfl
set_option maxRecDepth 100000 in
theorem tb_635 : (Jvm.Cond.selects "NameSeeker" ({ cls := "NameSeeker", name := "ways", desc := "(I)I" } : Jvm.MethodName) ({ cls := "NameSeeker", name := "ways", desc := "(I)I" } : Jvm.MethodName)) ∈ TB := tbI 635 rfl rfl
set_option maxRecDepth 100000 in
theorem tb_636 : (Jvm.Cond.code ({ cls := "NameSeeker", name := "ways", desc := "(I)I" } : Jvm.MethodName) prog_1_method_22_code (2 : Nat) (Option.some Jvm.ClassFile.FieldType.int)) ∈ TB := tbI 636 rfl rfl
set_option maxRecDepth 100000 in
theorem tb_637 : (Jvm.Cond.methodLink "NameSeeker" (233 : Nat) ({ cls := "NameSeeker$Laying", name := "countWays", desc := "(LNameSeeker$Name;LNameSeeker$Word;)I" } : Jvm.MethodName)) ∈ TB := tbI 637 rfl rfl
set_option maxRecDepth 100000 in
theorem tb_638 : (Jvm.Cond.instanceMethod ({ cls := "NameSeeker$Laying", name := "countWays", desc := "(LNameSeeker$Name;LNameSeeker$Word;)I" } : Jvm.MethodName)) ∈ TB := tbI 638 rfl rfl
set_option maxRecDepth 100000 in
theorem tb_639 : (Jvm.Cond.selects "NameSeeker$Laying" ({ cls := "NameSeeker$Laying", name := "countWays", desc := "(LNameSeeker$Name;LNameSeeker$Word;)I" } : Jvm.MethodName) ({ cls := "NameSeeker$Laying", name := "countWays", desc := "(LNameSeeker$Name;LNameSeeker$Word;)I" } : Jvm.MethodName)) ∈ TB := tbI 639 rfl rfl
set_option maxRecDepth 100000 in
theorem tb_640 : (Jvm.Cond.code ({ cls := "NameSeeker$Laying", name := "countWays", desc := "(LNameSeeker$Name;LNameSeeker$Word;)I" } : Jvm.MethodName) prog_4_method_6_code (5 : Nat) (Option.some Jvm.ClassFile.FieldType.int)) ∈ TB := tbI 640 rfl rfl
set_option maxRecDepth 100000 in
theorem tb_641 : (Jvm.Cond.methodLink "NameSeekerLaw" (93 : Nat) ({ cls := "NameSeeker", name := "passes", desc := "(I)I" } : Jvm.MethodName)) ∈ TB := tbI 641 rfl rfl
set_option maxRecDepth 100000 in
theorem tb_642 : (Jvm.Cond.instanceMethod ({ cls := "NameSeeker", name := "passes", desc := "(I)I" } : Jvm.MethodName)) ∈ TB := tbI 642 rfl rfl
set_option maxRecDepth 100000 in
theorem tb_643 : (Jvm.Cond.selects "NameSeeker" ({ cls := "NameSeeker", name := "passes", desc := "(I)I" } : Jvm.MethodName) ({ cls := "NameSeeker", name := "passes", desc := "(I)I" } : Jvm.MethodName)) ∈ TB := tbI 643 rfl rfl
set_option maxRecDepth 100000 in
theorem tb_644 : (Jvm.Cond.code ({ cls := "NameSeeker", name := "passes", desc := "(I)I" } : Jvm.MethodName) prog_1_method_23_code (5 : Nat) (Option.some Jvm.ClassFile.FieldType.int)) ∈ TB := tbI 644 rfl rfl
set_option maxRecDepth 100000 in
theorem tb_645 : (Jvm.Cond.methodLink "NameSeekerLaw" (97 : Nat) ({ cls := "NameSeeker", name := "asked", desc := "(I)I" } : Jvm.MethodName)) ∈ TB := tbI 645 rfl rfl
set_option maxRecDepth 100000 in
theorem tb_646 : (Jvm.Cond.instanceMethod ({ cls := "NameSeeker", name := "asked", desc := "(I)I" } : Jvm.MethodName)) ∈ TB := tbI 646 rfl rfl
set_option maxRecDepth 100000 in
theorem tb_647 : (Jvm.Cond.selects "NameSeeker" ({ cls := "NameSeeker", name := "asked", desc := "(I)I" } : Jvm.MethodName) ({ cls := "NameSeeker", name := "asked", desc := "(I)I" } : Jvm.MethodName)) ∈ TB := tbI 647 rfl rfl
set_option maxRecDepth 100000 in
theorem tb_648 : (Jvm.Cond.code ({ cls := "NameSeeker", name := "asked", desc := "(I)I" } : Jvm.MethodName) prog_1_method_24_code (2 : Nat) (Option.some Jvm.ClassFile.FieldType.int)) ∈ TB := tbI 648 rfl rfl
set_option maxRecDepth 100000 in
theorem tb_649 : (Jvm.Cond.constantLong "NameSeeker" (246 : Nat) (100003 : Int64)) ∈ TB := tbI 649 rfl rfl
set_option maxRecDepth 100000 in
theorem tb_650 : (Jvm.Cond.methodLink "NameSeekerLaw" (101 : Nat) ({ cls := "NameSeeker", name := "brief", desc := "(I)I" } : Jvm.MethodName)) ∈ TB := tbI 650 rfl rfl
set_option maxRecDepth 100000 in
theorem tb_651 : (Jvm.Cond.instanceMethod ({ cls := "NameSeeker", name := "brief", desc := "(I)I" } : Jvm.MethodName)) ∈ TB := tbI 651 rfl rfl
set_option maxRecDepth 100000 in
theorem tb_652 : (Jvm.Cond.selects "NameSeeker" ({ cls := "NameSeeker", name := "brief", desc := "(I)I" } : Jvm.MethodName) ({ cls := "NameSeeker", name := "brief", desc := "(I)I" } : Jvm.MethodName)) ∈ TB := tbI 652 rfl rfl
set_option maxRecDepth 100000 in
theorem tb_653 : (Jvm.Cond.code ({ cls := "NameSeeker", name := "brief", desc := "(I)I" } : Jvm.MethodName) prog_1_method_25_code (4 : Nat) (Option.some Jvm.ClassFile.FieldType.int)) ∈ TB := tbI 653 rfl rfl
set_option maxRecDepth 100000 in
theorem tb_654 : (Jvm.Cond.methodLink "NameSeeker" (248 : Nat) ({ cls := "NameSeeker", name := "isFirstBy", desc := "(III)Z" } : Jvm.MethodName)) ∈ TB := tbI 654 rfl rfl
set_option maxRecDepth 100000 in
theorem tb_656 : (Jvm.Cond.instanceMethod ({ cls := "NameSeeker", name := "isFirstBy", desc := "(III)Z" } : Jvm.MethodName)) ∈ TB := tbI 656 rfl rfl
set_option maxRecDepth 100000 in
theorem tb_657 : (Jvm.Cond.code ({ cls := "NameSeeker", name := "isFirstBy", desc := "(III)Z" } : Jvm.MethodName) prog_1_method_29_code (5 : Nat) (Option.some Jvm.ClassFile.FieldType.boolean)) ∈ TB := tbI 657 rfl rfl
set_option maxRecDepth 100000 in
theorem tb_658 : (Jvm.Cond.methodLink "NameSeeker" (281 : Nat) ({ cls := "NameSeeker$Ranking", name := "isFirst", desc := "(LNameSeeker$Lot;I)Z" } : Jvm.MethodName)) ∈ TB := tbI 658 rfl rfl
set_option maxRecDepth 100000 in
theorem tb_659 : (Jvm.Cond.instanceMethod ({ cls := "NameSeeker$Ranking", name := "isFirst", desc := "(LNameSeeker$Lot;I)Z" } : Jvm.MethodName)) ∈ TB := tbI 659 rfl rfl
set_option maxRecDepth 100000 in
theorem tb_660 : (Jvm.Cond.selects "NameSeeker$Ranking" ({ cls := "NameSeeker$Ranking", name := "isFirst", desc := "(LNameSeeker$Lot;I)Z" } : Jvm.MethodName) ({ cls := "NameSeeker$Ranking", name := "isFirst", desc := "(LNameSeeker$Lot;I)Z" } : Jvm.MethodName)) ∈ TB := tbI 660 rfl rfl
set_option maxRecDepth 100000 in
theorem tb_661 : (Jvm.Cond.code ({ cls := "NameSeeker$Ranking", name := "isFirst", desc := "(LNameSeeker$Lot;I)Z" } : Jvm.MethodName) prog_7_method_4_code (4 : Nat) (Option.some Jvm.ClassFile.FieldType.boolean)) ∈ TB := tbI 661 rfl rfl
set_option maxRecDepth 100000 in
theorem tb_662 : (Jvm.Cond.methodLink "NameSeekerLaw" (105 : Nat) ({ cls := "NameSeeker", name := "pair", desc := "(II)I" } : Jvm.MethodName)) ∈ TB := tbI 662 rfl rfl
set_option maxRecDepth 100000 in
theorem tb_663 : (Jvm.Cond.instanceMethod ({ cls := "NameSeeker", name := "pair", desc := "(II)I" } : Jvm.MethodName)) ∈ TB := tbI 663 rfl rfl
set_option maxRecDepth 100000 in
theorem tb_664 : (Jvm.Cond.selects "NameSeeker" ({ cls := "NameSeeker", name := "pair", desc := "(II)I" } : Jvm.MethodName) ({ cls := "NameSeeker", name := "pair", desc := "(II)I" } : Jvm.MethodName)) ∈ TB := tbI 664 rfl rfl
set_option maxRecDepth 100000 in
theorem tb_665 : (Jvm.Cond.code ({ cls := "NameSeeker", name := "pair", desc := "(II)I" } : Jvm.MethodName) prog_1_method_26_code (3 : Nat) (Option.some Jvm.ClassFile.FieldType.int)) ∈ TB := tbI 665 rfl rfl
set_option maxRecDepth 100000 in
theorem tb_672 : (Jvm.Cond.methodLink "NameSeekerLaw" (109 : Nat) ({ cls := "NameSeeker", name := "keep", desc := "()I" } : Jvm.MethodName)) ∈ TB := tbI 672 rfl rfl
set_option maxRecDepth 100000 in
theorem tb_673 : (Jvm.Cond.instanceMethod ({ cls := "NameSeeker", name := "keep", desc := "()I" } : Jvm.MethodName)) ∈ TB := tbI 673 rfl rfl
set_option maxRecDepth 100000 in
theorem tb_674 : (Jvm.Cond.selects "NameSeeker" ({ cls := "NameSeeker", name := "keep", desc := "()I" } : Jvm.MethodName) ({ cls := "NameSeeker", name := "keep", desc := "()I" } : Jvm.MethodName)) ∈ TB := tbI 674 rfl rfl
set_option maxRecDepth 100000 in
theorem tb_675 : (Jvm.Cond.code ({ cls := "NameSeeker", name := "keep", desc := "()I" } : Jvm.MethodName) prog_1_method_30_code (1 : Nat) (Option.some Jvm.ClassFile.FieldType.int)) ∈ TB := tbI 675 rfl rfl
set_option maxRecDepth 100000 in
theorem tb_676 : (Jvm.Cond.methodLink "NameSeeker" (285 : Nat) ({ cls := "NameSeeker$Word", name := "copy", desc := "(LNameSeeker$Word;)V" } : Jvm.MethodName)) ∈ TB := tbI 676 rfl rfl
set_option maxRecDepth 100000 in
theorem tb_677 : (Jvm.Cond.instanceMethod ({ cls := "NameSeeker$Word", name := "copy", desc := "(LNameSeeker$Word;)V" } : Jvm.MethodName)) ∈ TB := tbI 677 rfl rfl
set_option maxRecDepth 100000 in
theorem tb_678 : (Jvm.Cond.selects "NameSeeker$Word" ({ cls := "NameSeeker$Word", name := "copy", desc := "(LNameSeeker$Word;)V" } : Jvm.MethodName) ({ cls := "NameSeeker$Word", name := "copy", desc := "(LNameSeeker$Word;)V" } : Jvm.MethodName)) ∈ TB := tbI 678 rfl rfl
set_option maxRecDepth 100000 in
theorem tb_679 : (Jvm.Cond.code ({ cls := "NameSeeker$Word", name := "copy", desc := "(LNameSeeker$Word;)V" } : Jvm.MethodName) prog_10_method_5_code (3 : Nat) (Option.none : Option Jvm.ClassFile.FieldType)) ∈ TB := tbI 679 rfl rfl
set_option maxRecDepth 100000 in
theorem tb_680 : (Jvm.Cond.methodLink "NameSeekerLaw" (113 : Nat) ({ cls := "NameSeeker", name := "back", desc := "()I" } : Jvm.MethodName)) ∈ TB := tbI 680 rfl rfl
set_option maxRecDepth 100000 in
theorem tb_681 : (Jvm.Cond.instanceMethod ({ cls := "NameSeeker", name := "back", desc := "()I" } : Jvm.MethodName)) ∈ TB := tbI 681 rfl rfl
set_option maxRecDepth 100000 in
theorem tb_682 : (Jvm.Cond.selects "NameSeeker" ({ cls := "NameSeeker", name := "back", desc := "()I" } : Jvm.MethodName) ({ cls := "NameSeeker", name := "back", desc := "()I" } : Jvm.MethodName)) ∈ TB := tbI 682 rfl rfl
set_option maxRecDepth 100000 in
theorem tb_683 : (Jvm.Cond.code ({ cls := "NameSeeker", name := "back", desc := "()I" } : Jvm.MethodName) prog_1_method_31_code (1 : Nat) (Option.some Jvm.ClassFile.FieldType.int)) ∈ TB := tbI 683 rfl rfl
set_option maxRecDepth 100000 in
theorem tb_684 : (Jvm.Cond.methodLink "NameSeekerLaw" (117 : Nat) ({ cls := "NameSeeker", name := "count", desc := "(I)I" } : Jvm.MethodName)) ∈ TB := tbI 684 rfl rfl
set_option maxRecDepth 100000 in
theorem tb_685 : (Jvm.Cond.instanceMethod ({ cls := "NameSeeker", name := "count", desc := "(I)I" } : Jvm.MethodName)) ∈ TB := tbI 685 rfl rfl
set_option maxRecDepth 100000 in
theorem tb_686 : (Jvm.Cond.selects "NameSeeker" ({ cls := "NameSeeker", name := "count", desc := "(I)I" } : Jvm.MethodName) ({ cls := "NameSeeker", name := "count", desc := "(I)I" } : Jvm.MethodName)) ∈ TB := tbI 686 rfl rfl
set_option maxRecDepth 100000 in
theorem tb_687 : (Jvm.Cond.code ({ cls := "NameSeeker", name := "count", desc := "(I)I" } : Jvm.MethodName) prog_1_method_32_code (2 : Nat) (Option.some Jvm.ClassFile.FieldType.int)) ∈ TB := tbI 687 rfl rfl
set_option maxRecDepth 100000 in
theorem tb_688 : (Jvm.Cond.classLink "NameSeekerLaw" (10 : Nat) "NameSeekerModel") ∈ TB := tbI 688 rfl rfl
set_option maxRecDepth 100000 in
theorem tb_689 : (Jvm.Cond.instantiable "NameSeekerModel" (41 : Nat)) ∈ TB := tbI 689 rfl rfl
set_option maxRecDepth 100000 in
theorem tb_690 : (Jvm.Cond.methodLink "NameSeekerLaw" (12 : Nat) ({ cls := "NameSeekerModel", name := "<init>", desc := "()V" } : Jvm.MethodName)) ∈ TB := tbI 690 rfl rfl
set_option maxRecDepth 100000 in
theorem tb_691 : (Jvm.Cond.instanceMethod ({ cls := "NameSeekerModel", name := "<init>", desc := "()V" } : Jvm.MethodName)) ∈ TB := tbI 691 rfl rfl
set_option maxRecDepth 100000 in
theorem tb_692 : (Jvm.Cond.code ({ cls := "NameSeekerModel", name := "<init>", desc := "()V" } : Jvm.MethodName) prog_12_method_1_code (4 : Nat) (Option.none : Option Jvm.ClassFile.FieldType)) ∈ TB := tbI 692 rfl rfl
set_option maxRecDepth 100000 in
theorem tb_694 : (Jvm.Cond.fieldLink "NameSeekerModel" (112 : Nat) "NameSeekerModel" "length" "I") ∈ TB := tbI 694 rfl rfl
set_option maxRecDepth 100000 in
theorem tb_695 : (Jvm.Cond.fieldLink "NameSeekerModel" (7 : Nat) "NameSeekerModel" "text" "[I") ∈ TB := tbI 695 rfl rfl
set_option maxRecDepth 100000 in
theorem tb_696 : (Jvm.Cond.fieldLink "NameSeekerModel" (99 : Nat) "NameSeekerModel" "names" "I") ∈ TB := tbI 696 rfl rfl
set_option maxRecDepth 100000 in
theorem tb_697 : (Jvm.Cond.fieldLink "NameSeekerModel" (13 : Nat) "NameSeekerModel" "signs" "[I") ∈ TB := tbI 697 rfl rfl
set_option maxRecDepth 100000 in
theorem tb_698 : (Jvm.Cond.fieldLink "NameSeekerModel" (16 : Nat) "NameSeekerModel" "sizes" "[I") ∈ TB := tbI 698 rfl rfl
set_option maxRecDepth 100000 in
theorem tb_699 : (Jvm.Cond.fieldLink "NameSeekerModel" (19 : Nat) "NameSeekerModel" "kinds" "[I") ∈ TB := tbI 699 rfl rfl
set_option maxRecDepth 100000 in
theorem tb_700 : (Jvm.Cond.fieldLink "NameSeekerModel" (22 : Nat) "NameSeekerModel" "ids" "[I") ∈ TB := tbI 700 rfl rfl
set_option maxRecDepth 100000 in
theorem tb_701 : (Jvm.Cond.fieldLink "NameSeekerModel" (25 : Nat) "NameSeekerModel" "picks" "[I") ∈ TB := tbI 701 rfl rfl
set_option maxRecDepth 100000 in
theorem tb_702 : (Jvm.Cond.fieldLink "NameSeekerModel" (28 : Nat) "NameSeekerModel" "worths" "[I") ∈ TB := tbI 702 rfl rfl
set_option maxRecDepth 100000 in
theorem tb_703 : (Jvm.Cond.fieldLink "NameSeekerModel" (119 : Nat) "NameSeekerModel" "readNames" "I") ∈ TB := tbI 703 rfl rfl
set_option maxRecDepth 100000 in
theorem tb_704 : (Jvm.Cond.fieldLink "NameSeekerModel" (31 : Nat) "NameSeekerModel" "readSigns" "[I") ∈ TB := tbI 704 rfl rfl
set_option maxRecDepth 100000 in
theorem tb_705 : (Jvm.Cond.fieldLink "NameSeekerModel" (34 : Nat) "NameSeekerModel" "readSizes" "[I") ∈ TB := tbI 705 rfl rfl
set_option maxRecDepth 100000 in
theorem tb_706 : (Jvm.Cond.fieldLink "NameSeekerModel" (37 : Nat) "NameSeekerModel" "readKinds" "[I") ∈ TB := tbI 706 rfl rfl
set_option maxRecDepth 100000 in
theorem tb_707 : (Jvm.Cond.fieldLink "NameSeekerModel" (40 : Nat) "NameSeekerModel" "readWorths" "[I") ∈ TB := tbI 707 rfl rfl
set_option maxRecDepth 100000 in
theorem tb_708 : (Jvm.Cond.fieldLink "NameSeekerModel" (139 : Nat) "NameSeekerModel" "wordSize" "I") ∈ TB := tbI 708 rfl rfl
set_option maxRecDepth 100000 in
theorem tb_709 : (Jvm.Cond.fieldLink "NameSeekerModel" (43 : Nat) "NameSeekerModel" "wordRow" "[I") ∈ TB := tbI 709 rfl rfl
set_option maxRecDepth 100000 in
theorem tb_710 : (Jvm.Cond.fieldLink "NameSeekerModel" (142 : Nat) "NameSeekerModel" "kept" "I") ∈ TB := tbI 710 rfl rfl
set_option maxRecDepth 100000 in
theorem tb_711 : (Jvm.Cond.fieldLink "NameSeekerModel" (46 : Nat) "NameSeekerModel" "keptRows" "[I") ∈ TB := tbI 711 rfl rfl
set_option maxRecDepth 100000 in
theorem tb_712 : (Jvm.Cond.fieldLink "NameSeekerModel" (49 : Nat) "NameSeekerModel" "keptSizes" "[I") ∈ TB := tbI 712 rfl rfl
set_option maxRecDepth 100000 in
theorem tb_713 : (Jvm.Cond.fieldLink "NameSeekerModel" (102 : Nat) "NameSeekerModel" "laid" "I") ∈ TB := tbI 713 rfl rfl
set_option maxRecDepth 100000 in
theorem tb_714 : (Jvm.Cond.fieldLink "NameSeekerModel" (154 : Nat) "NameSeekerModel" "tick" "I") ∈ TB := tbI 714 rfl rfl
set_option maxRecDepth 100000 in
theorem tb_715 : (Jvm.Cond.fieldLink "NameSeekerModel" (52 : Nat) "NameSeekerModel" "age" "I") ∈ TB := tbI 715 rfl rfl
set_option maxRecDepth 100000 in
theorem tb_716 : (Jvm.Cond.fieldLink "NameSeekerModel" (192 : Nat) "NameSeekerModel" "hits" "I") ∈ TB := tbI 716 rfl rfl
set_option maxRecDepth 100000 in
theorem tb_717 : (Jvm.Cond.fieldLink "NameSeekerModel" (195 : Nat) "NameSeekerModel" "misses" "I") ∈ TB := tbI 717 rfl rfl
set_option maxRecDepth 100000 in
theorem tb_718 : (Jvm.Cond.fieldLink "NameSeekerModel" (56 : Nat) "NameSeekerModel" "seed" "I") ∈ TB := tbI 718 rfl rfl
set_option maxRecDepth 100000 in
theorem tb_719 : (Jvm.Cond.fieldLink "NameSeekerModel" (210 : Nat) "NameSeekerModel" "askedMany" "I") ∈ TB := tbI 719 rfl rfl
set_option maxRecDepth 100000 in
theorem tb_720 : (Jvm.Cond.fieldLink "NameSeekerModel" (59 : Nat) "NameSeekerModel" "askedCodes" "[J") ∈ TB := tbI 720 rfl rfl
set_option maxRecDepth 100000 in
theorem tb_721 : (Jvm.Cond.fieldLink "NameSeekerModel" (63 : Nat) "NameSeekerModel" "knownIds" "[I") ∈ TB := tbI 721 rfl rfl
set_option maxRecDepth 100000 in
theorem tb_722 : (Jvm.Cond.fieldLink "NameSeekerModel" (66 : Nat) "NameSeekerModel" "knownCodes" "[J") ∈ TB := tbI 722 rfl rfl
set_option maxRecDepth 100000 in
theorem tb_723 : (Jvm.Cond.fieldLink "NameSeekerModel" (69 : Nat) "NameSeekerModel" "knownAges" "[I") ∈ TB := tbI 723 rfl rfl
set_option maxRecDepth 100000 in
theorem tb_724 : (Jvm.Cond.fieldLink "NameSeekerModel" (72 : Nat) "NameSeekerModel" "knownScores" "[I") ∈ TB := tbI 724 rfl rfl
set_option maxRecDepth 100000 in
theorem tb_725 : (Jvm.Cond.fieldLink "NameSeekerModel" (160 : Nat) "NameSeekerModel" "triedSize" "I") ∈ TB := tbI 725 rfl rfl
set_option maxRecDepth 100000 in
theorem tb_726 : (Jvm.Cond.fieldLink "NameSeekerModel" (75 : Nat) "NameSeekerModel" "tried" "[I") ∈ TB := tbI 726 rfl rfl
set_option maxRecDepth 100000 in
theorem tb_727 : (Jvm.Cond.fieldLink "NameSeekerModel" (78 : Nat) "NameSeekerModel" "at" "[I") ∈ TB := tbI 727 rfl rfl
set_option maxRecDepth 100000 in
theorem tb_728 : (Jvm.Cond.fieldLink "NameSeekerModel" (81 : Nat) "NameSeekerModel" "bestAt" "[I") ∈ TB := tbI 728 rfl rfl
set_option maxRecDepth 100000 in
theorem tb_729 : (Jvm.Cond.fieldLink "NameSeekerModel" (167 : Nat) "NameSeekerModel" "bestWorth" "I") ∈ TB := tbI 729 rfl rfl
set_option maxRecDepth 100000 in
theorem tb_730 : (Jvm.Cond.fieldLink "NameSeekerModel" (84 : Nat) "NameSeekerModel" "scores" "[I") ∈ TB := tbI 730 rfl rfl
set_option maxRecDepth 100000 in
theorem tb_731 : (Jvm.Cond.fieldLink "NameSeekerModel" (87 : Nat) "NameSeekerModel" "firstLetters" "[I") ∈ TB := tbI 731 rfl rfl
set_option maxRecDepth 100000 in
theorem tb_732 : (Jvm.Cond.fieldLink "NameSeekerModel" (90 : Nat) "NameSeekerModel" "lastLetters" "[I") ∈ TB := tbI 732 rfl rfl
set_option maxRecDepth 100000 in
theorem tb_733 : (Jvm.Cond.fieldLink "NameSeekerModel" (93 : Nat) "NameSeekerModel" "firstSizes" "[I") ∈ TB := tbI 733 rfl rfl
set_option maxRecDepth 100000 in
theorem tb_734 : (Jvm.Cond.fieldLink "NameSeekerModel" (96 : Nat) "NameSeekerModel" "firstKinds" "[I") ∈ TB := tbI 734 rfl rfl
set_option maxRecDepth 100000 in
theorem tb_818 : (Jvm.Cond.methodLink "NameSeekerLaw" (17 : Nat) ({ cls := "NameSeekerModel", name := "write", desc := "(I)I" } : Jvm.MethodName)) ∈ TB := tbI 818 rfl rfl
set_option maxRecDepth 100000 in
theorem tb_819 : (Jvm.Cond.instanceMethod ({ cls := "NameSeekerModel", name := "write", desc := "(I)I" } : Jvm.MethodName)) ∈ TB := tbI 819 rfl rfl
set_option maxRecDepth 100000 in
theorem tb_820 : (Jvm.Cond.selects "NameSeekerModel" ({ cls := "NameSeekerModel", name := "write", desc := "(I)I" } : Jvm.MethodName) ({ cls := "NameSeekerModel", name := "write", desc := "(I)I" } : Jvm.MethodName)) ∈ TB := tbI 820 rfl rfl
set_option maxRecDepth 100000 in
theorem tb_821 : (Jvm.Cond.code ({ cls := "NameSeekerModel", name := "write", desc := "(I)I" } : Jvm.MethodName) prog_12_method_10_code (2 : Nat) (Option.some Jvm.ClassFile.FieldType.int)) ∈ TB := tbI 821 rfl rfl
set_option maxRecDepth 100000 in
theorem tb_822 : (Jvm.Cond.methodLink "NameSeekerLaw" (22 : Nat) ({ cls := "NameSeekerModel", name := "wipe", desc := "()I" } : Jvm.MethodName)) ∈ TB := tbI 822 rfl rfl
set_option maxRecDepth 100000 in
theorem tb_823 : (Jvm.Cond.instanceMethod ({ cls := "NameSeekerModel", name := "wipe", desc := "()I" } : Jvm.MethodName)) ∈ TB := tbI 823 rfl rfl
set_option maxRecDepth 100000 in
theorem tb_824 : (Jvm.Cond.selects "NameSeekerModel" ({ cls := "NameSeekerModel", name := "wipe", desc := "()I" } : Jvm.MethodName) ({ cls := "NameSeekerModel", name := "wipe", desc := "()I" } : Jvm.MethodName)) ∈ TB := tbI 824 rfl rfl
set_option maxRecDepth 100000 in
theorem tb_825 : (Jvm.Cond.code ({ cls := "NameSeekerModel", name := "wipe", desc := "()I" } : Jvm.MethodName) prog_12_method_11_code (2 : Nat) (Option.some Jvm.ClassFile.FieldType.int)) ∈ TB := tbI 825 rfl rfl
set_option maxRecDepth 100000 in
theorem tb_826 : (Jvm.Cond.methodLink "NameSeekerLaw" (26 : Nat) ({ cls := "NameSeekerModel", name := "fault", desc := "()I" } : Jvm.MethodName)) ∈ TB := tbI 826 rfl rfl
set_option maxRecDepth 100000 in
theorem tb_827 : (Jvm.Cond.instanceMethod ({ cls := "NameSeekerModel", name := "fault", desc := "()I" } : Jvm.MethodName)) ∈ TB := tbI 827 rfl rfl
set_option maxRecDepth 100000 in
theorem tb_828 : (Jvm.Cond.selects "NameSeekerModel" ({ cls := "NameSeekerModel", name := "fault", desc := "()I" } : Jvm.MethodName) ({ cls := "NameSeekerModel", name := "fault", desc := "()I" } : Jvm.MethodName)) ∈ TB := tbI 828 rfl rfl
set_option maxRecDepth 100000 in
theorem tb_829 : (Jvm.Cond.code ({ cls := "NameSeekerModel", name := "fault", desc := "()I" } : Jvm.MethodName) prog_12_method_12_code (1 : Nat) (Option.some Jvm.ClassFile.FieldType.int)) ∈ TB := tbI 829 rfl rfl
set_option maxRecDepth 100000 in
theorem tb_830 : (Jvm.Cond.methodLink "NameSeekerModel" (135 : Nat) ({ cls := "NameSeekerModel", name := "reads", desc := "()I" } : Jvm.MethodName)) ∈ TB := tbI 830 rfl rfl
set_option maxRecDepth 100000 in
theorem tb_832 : (Jvm.Cond.instanceMethod ({ cls := "NameSeekerModel", name := "reads", desc := "()I" } : Jvm.MethodName)) ∈ TB := tbI 832 rfl rfl
set_option maxRecDepth 100000 in
theorem tb_833 : (Jvm.Cond.code ({ cls := "NameSeekerModel", name := "reads", desc := "()I" } : Jvm.MethodName) prog_12_method_9_code (3 : Nat) (Option.some Jvm.ClassFile.FieldType.int)) ∈ TB := tbI 833 rfl rfl
set_option maxRecDepth 100000 in
theorem tb_834 : (Jvm.Cond.methodLink "NameSeekerModel" (129 : Nat) ({ cls := "NameSeekerModel", name := "readsName", desc := "(I)I" } : Jvm.MethodName)) ∈ TB := tbI 834 rfl rfl
set_option maxRecDepth 100000 in
theorem tb_836 : (Jvm.Cond.instanceMethod ({ cls := "NameSeekerModel", name := "readsName", desc := "(I)I" } : Jvm.MethodName)) ∈ TB := tbI 836 rfl rfl
set_option maxRecDepth 100000 in
theorem tb_837 : (Jvm.Cond.code ({ cls := "NameSeekerModel", name := "readsName", desc := "(I)I" } : Jvm.MethodName) prog_12_method_7_code (4 : Nat) (Option.some Jvm.ClassFile.FieldType.int)) ∈ TB := tbI 837 rfl rfl
set_option maxRecDepth 100000 in
theorem tb_838 : (Jvm.Cond.methodLink "NameSeekerModel" (122 : Nat) ({ cls := "NameSeekerModel", name := "isFigure", desc := "(II)Z" } : Jvm.MethodName)) ∈ TB := tbI 838 rfl rfl
set_option maxRecDepth 100000 in
theorem tb_840 : (Jvm.Cond.instanceMethod ({ cls := "NameSeekerModel", name := "isFigure", desc := "(II)Z" } : Jvm.MethodName)) ∈ TB := tbI 840 rfl rfl
set_option maxRecDepth 100000 in
theorem tb_841 : (Jvm.Cond.code ({ cls := "NameSeekerModel", name := "isFigure", desc := "(II)Z" } : Jvm.MethodName) prog_12_method_6_code (3 : Nat) (Option.some Jvm.ClassFile.FieldType.boolean)) ∈ TB := tbI 841 rfl rfl
set_option maxRecDepth 100000 in
theorem tb_842 : (Jvm.Cond.methodLink "NameSeekerModel" (115 : Nat) ({ cls := "NameSeekerModel", name := "letterAt", desc := "(I)I" } : Jvm.MethodName)) ∈ TB := tbI 842 rfl rfl
set_option maxRecDepth 100000 in
theorem tb_844 : (Jvm.Cond.instanceMethod ({ cls := "NameSeekerModel", name := "letterAt", desc := "(I)I" } : Jvm.MethodName)) ∈ TB := tbI 844 rfl rfl
set_option maxRecDepth 100000 in
theorem tb_845 : (Jvm.Cond.code ({ cls := "NameSeekerModel", name := "letterAt", desc := "(I)I" } : Jvm.MethodName) prog_12_method_5_code (2 : Nat) (Option.some Jvm.ClassFile.FieldType.int)) ∈ TB := tbI 845 rfl rfl
set_option maxRecDepth 100000 in
theorem tb_846 : (Jvm.Cond.methodLink "NameSeekerModel" (126 : Nat) ({ cls := "NameSeekerModel", name := "isSign", desc := "(I)Z" } : Jvm.MethodName)) ∈ TB := tbI 846 rfl rfl
set_option maxRecDepth 100000 in
theorem tb_847 : (Jvm.Cond.static ({ cls := "NameSeekerModel", name := "isSign", desc := "(I)Z" } : Jvm.MethodName)) ∈ TB := tbI 847 rfl rfl
set_option maxRecDepth 100000 in
theorem tb_848 : (Jvm.Cond.code ({ cls := "NameSeekerModel", name := "isSign", desc := "(I)Z" } : Jvm.MethodName) prog_12_method_4_code (1 : Nat) (Option.some Jvm.ClassFile.FieldType.boolean)) ∈ TB := tbI 848 rfl rfl
set_option maxRecDepth 100000 in
theorem tb_849 : (Jvm.Cond.methodLink "NameSeekerModel" (105 : Nat) ({ cls := "NameSeekerModel", name := "isSmall", desc := "(I)Z" } : Jvm.MethodName)) ∈ TB := tbI 849 rfl rfl
set_option maxRecDepth 100000 in
theorem tb_850 : (Jvm.Cond.static ({ cls := "NameSeekerModel", name := "isSmall", desc := "(I)Z" } : Jvm.MethodName)) ∈ TB := tbI 850 rfl rfl
set_option maxRecDepth 100000 in
theorem tb_851 : (Jvm.Cond.code ({ cls := "NameSeekerModel", name := "isSmall", desc := "(I)Z" } : Jvm.MethodName) prog_12_method_2_code (1 : Nat) (Option.some Jvm.ClassFile.FieldType.boolean)) ∈ TB := tbI 851 rfl rfl
set_option maxRecDepth 100000 in
theorem tb_852 : (Jvm.Cond.methodLink "NameSeekerModel" (109 : Nat) ({ cls := "NameSeekerModel", name := "isGreat", desc := "(I)Z" } : Jvm.MethodName)) ∈ TB := tbI 852 rfl rfl
set_option maxRecDepth 100000 in
theorem tb_853 : (Jvm.Cond.static ({ cls := "NameSeekerModel", name := "isGreat", desc := "(I)Z" } : Jvm.MethodName)) ∈ TB := tbI 853 rfl rfl
set_option maxRecDepth 100000 in
theorem tb_854 : (Jvm.Cond.code ({ cls := "NameSeekerModel", name := "isGreat", desc := "(I)Z" } : Jvm.MethodName) prog_12_method_3_code (1 : Nat) (Option.some Jvm.ClassFile.FieldType.boolean)) ∈ TB := tbI 854 rfl rfl
set_option maxRecDepth 100000 in
theorem tb_855 : (Jvm.Cond.methodLink "NameSeekerModel" (132 : Nat) ({ cls := "NameSeekerModel", name := "readsWorths", desc := "(I)I" } : Jvm.MethodName)) ∈ TB := tbI 855 rfl rfl
set_option maxRecDepth 100000 in
theorem tb_857 : (Jvm.Cond.instanceMethod ({ cls := "NameSeekerModel", name := "readsWorths", desc := "(I)I" } : Jvm.MethodName)) ∈ TB := tbI 857 rfl rfl
set_option maxRecDepth 100000 in
theorem tb_858 : (Jvm.Cond.code ({ cls := "NameSeekerModel", name := "readsWorths", desc := "(I)I" } : Jvm.MethodName) prog_12_method_8_code (3 : Nat) (Option.some Jvm.ClassFile.FieldType.int)) ∈ TB := tbI 858 rfl rfl
set_option maxRecDepth 100000 in
theorem tb_859 : (Jvm.Cond.methodLink "NameSeekerLaw" (30 : Nat) ({ cls := "NameSeekerModel", name := "lay", desc := "()I" } : Jvm.MethodName)) ∈ TB := tbI 859 rfl rfl
set_option maxRecDepth 100000 in
theorem tb_860 : (Jvm.Cond.instanceMethod ({ cls := "NameSeekerModel", name := "lay", desc := "()I" } : Jvm.MethodName)) ∈ TB := tbI 860 rfl rfl
set_option maxRecDepth 100000 in
theorem tb_861 : (Jvm.Cond.selects "NameSeekerModel" ({ cls := "NameSeekerModel", name := "lay", desc := "()I" } : Jvm.MethodName) ({ cls := "NameSeekerModel", name := "lay", desc := "()I" } : Jvm.MethodName)) ∈ TB := tbI 861 rfl rfl
set_option maxRecDepth 100000 in
theorem tb_862 : (Jvm.Cond.code ({ cls := "NameSeekerModel", name := "lay", desc := "()I" } : Jvm.MethodName) prog_12_method_13_code (3 : Nat) (Option.some Jvm.ClassFile.FieldType.int)) ∈ TB := tbI 862 rfl rfl
set_option maxRecDepth 100000 in
theorem tb_863 : (Jvm.Cond.methodLink "NameSeekerLaw" (35 : Nat) ({ cls := "NameSeekerModel", name := "name", desc := "(II)I" } : Jvm.MethodName)) ∈ TB := tbI 863 rfl rfl
set_option maxRecDepth 100000 in
theorem tb_864 : (Jvm.Cond.instanceMethod ({ cls := "NameSeekerModel", name := "name", desc := "(II)I" } : Jvm.MethodName)) ∈ TB := tbI 864 rfl rfl
set_option maxRecDepth 100000 in
theorem tb_865 : (Jvm.Cond.selects "NameSeekerModel" ({ cls := "NameSeekerModel", name := "name", desc := "(II)I" } : Jvm.MethodName) ({ cls := "NameSeekerModel", name := "name", desc := "(II)I" } : Jvm.MethodName)) ∈ TB := tbI 865 rfl rfl
set_option maxRecDepth 100000 in
theorem tb_866 : (Jvm.Cond.code ({ cls := "NameSeekerModel", name := "name", desc := "(II)I" } : Jvm.MethodName) prog_12_method_16_code (5 : Nat) (Option.some Jvm.ClassFile.FieldType.int)) ∈ TB := tbI 866 rfl rfl
set_option maxRecDepth 100000 in
theorem tb_867 : (Jvm.Cond.methodLink "NameSeekerModel" (145 : Nat) ({ cls := "NameSeekerModel", name := "isName", desc := "(I)Z" } : Jvm.MethodName)) ∈ TB := tbI 867 rfl rfl
set_option maxRecDepth 100000 in
theorem tb_869 : (Jvm.Cond.instanceMethod ({ cls := "NameSeekerModel", name := "isName", desc := "(I)Z" } : Jvm.MethodName)) ∈ TB := tbI 869 rfl rfl
set_option maxRecDepth 100000 in
theorem tb_870 : (Jvm.Cond.code ({ cls := "NameSeekerModel", name := "isName", desc := "(I)Z" } : Jvm.MethodName) prog_12_method_14_code (2 : Nat) (Option.some Jvm.ClassFile.FieldType.boolean)) ∈ TB := tbI 870 rfl rfl
set_option maxRecDepth 100000 in
theorem tb_871 : (Jvm.Cond.methodLink "NameSeekerModel" (148 : Nat) ({ cls := "NameSeekerModel", name := "isBeginning", desc := "(II)Z" } : Jvm.MethodName)) ∈ TB := tbI 871 rfl rfl
set_option maxRecDepth 100000 in
theorem tb_873 : (Jvm.Cond.instanceMethod ({ cls := "NameSeekerModel", name := "isBeginning", desc := "(II)Z" } : Jvm.MethodName)) ∈ TB := tbI 873 rfl rfl
set_option maxRecDepth 100000 in
theorem tb_874 : (Jvm.Cond.code ({ cls := "NameSeekerModel", name := "isBeginning", desc := "(II)Z" } : Jvm.MethodName) prog_12_method_15_code (5 : Nat) (Option.some Jvm.ClassFile.FieldType.boolean)) ∈ TB := tbI 874 rfl rfl
set_option maxRecDepth 100000 in
theorem tb_875 : (Jvm.Cond.methodLink "NameSeekerLaw" (39 : Nat) ({ cls := "NameSeekerModel", name := "sign", desc := "(II)I" } : Jvm.MethodName)) ∈ TB := tbI 875 rfl rfl
set_option maxRecDepth 100000 in
theorem tb_876 : (Jvm.Cond.instanceMethod ({ cls := "NameSeekerModel", name := "sign", desc := "(II)I" } : Jvm.MethodName)) ∈ TB := tbI 876 rfl rfl
set_option maxRecDepth 100000 in
theorem tb_877 : (Jvm.Cond.selects "NameSeekerModel" ({ cls := "NameSeekerModel", name := "sign", desc := "(II)I" } : Jvm.MethodName) ({ cls := "NameSeekerModel", name := "sign", desc := "(II)I" } : Jvm.MethodName)) ∈ TB := tbI 877 rfl rfl
set_option maxRecDepth 100000 in
theorem tb_878 : (Jvm.Cond.code ({ cls := "NameSeekerModel", name := "sign", desc := "(II)I" } : Jvm.MethodName) prog_12_method_17_code (3 : Nat) (Option.some Jvm.ClassFile.FieldType.int)) ∈ TB := tbI 878 rfl rfl
set_option maxRecDepth 100000 in
theorem tb_879 : (Jvm.Cond.methodLink "NameSeekerLaw" (43 : Nat) ({ cls := "NameSeekerModel", name := "type", desc := "(I)I" } : Jvm.MethodName)) ∈ TB := tbI 879 rfl rfl
set_option maxRecDepth 100000 in
theorem tb_880 : (Jvm.Cond.instanceMethod ({ cls := "NameSeekerModel", name := "type", desc := "(I)I" } : Jvm.MethodName)) ∈ TB := tbI 880 rfl rfl
set_option maxRecDepth 100000 in
theorem tb_881 : (Jvm.Cond.selects "NameSeekerModel" ({ cls := "NameSeekerModel", name := "type", desc := "(I)I" } : Jvm.MethodName) ({ cls := "NameSeekerModel", name := "type", desc := "(I)I" } : Jvm.MethodName)) ∈ TB := tbI 881 rfl rfl
set_option maxRecDepth 100000 in
theorem tb_882 : (Jvm.Cond.code ({ cls := "NameSeekerModel", name := "type", desc := "(I)I" } : Jvm.MethodName) prog_12_method_18_code (2 : Nat) (Option.some Jvm.ClassFile.FieldType.int)) ∈ TB := tbI 882 rfl rfl
set_option maxRecDepth 100000 in
theorem tb_883 : (Jvm.Cond.methodLink "NameSeekerLaw" (47 : Nat) ({ cls := "NameSeekerModel", name := "untype", desc := "()I" } : Jvm.MethodName)) ∈ TB := tbI 883 rfl rfl
set_option maxRecDepth 100000 in
theorem tb_884 : (Jvm.Cond.instanceMethod ({ cls := "NameSeekerModel", name := "untype", desc := "()I" } : Jvm.MethodName)) ∈ TB := tbI 884 rfl rfl
set_option maxRecDepth 100000 in
theorem tb_885 : (Jvm.Cond.selects "NameSeekerModel" ({ cls := "NameSeekerModel", name := "untype", desc := "()I" } : Jvm.MethodName) ({ cls := "NameSeekerModel", name := "untype", desc := "()I" } : Jvm.MethodName)) ∈ TB := tbI 885 rfl rfl
set_option maxRecDepth 100000 in
theorem tb_886 : (Jvm.Cond.code ({ cls := "NameSeekerModel", name := "untype", desc := "()I" } : Jvm.MethodName) prog_12_method_19_code (1 : Nat) (Option.some Jvm.ClassFile.FieldType.int)) ∈ TB := tbI 886 rfl rfl
set_option maxRecDepth 100000 in
theorem tb_887 : (Jvm.Cond.methodLink "NameSeekerLaw" (51 : Nat) ({ cls := "NameSeekerModel", name := "roll", desc := "()I" } : Jvm.MethodName)) ∈ TB := tbI 887 rfl rfl
set_option maxRecDepth 100000 in
theorem tb_888 : (Jvm.Cond.instanceMethod ({ cls := "NameSeekerModel", name := "roll", desc := "()I" } : Jvm.MethodName)) ∈ TB := tbI 888 rfl rfl
set_option maxRecDepth 100000 in
theorem tb_889 : (Jvm.Cond.selects "NameSeekerModel" ({ cls := "NameSeekerModel", name := "roll", desc := "()I" } : Jvm.MethodName) ({ cls := "NameSeekerModel", name := "roll", desc := "()I" } : Jvm.MethodName)) ∈ TB := tbI 889 rfl rfl
set_option maxRecDepth 100000 in
theorem tb_890 : (Jvm.Cond.code ({ cls := "NameSeekerModel", name := "roll", desc := "()I" } : Jvm.MethodName) prog_12_method_20_code (1 : Nat) (Option.some Jvm.ClassFile.FieldType.int)) ∈ TB := tbI 890 rfl rfl
set_option maxRecDepth 100000 in
theorem tb_892 : (Jvm.Cond.methodLink "NameSeekerLaw" (55 : Nat) ({ cls := "NameSeekerModel", name := "word", desc := "(I)I" } : Jvm.MethodName)) ∈ TB := tbI 892 rfl rfl
set_option maxRecDepth 100000 in
theorem tb_893 : (Jvm.Cond.instanceMethod ({ cls := "NameSeekerModel", name := "word", desc := "(I)I" } : Jvm.MethodName)) ∈ TB := tbI 893 rfl rfl
set_option maxRecDepth 100000 in
theorem tb_894 : (Jvm.Cond.selects "NameSeekerModel" ({ cls := "NameSeekerModel", name := "word", desc := "(I)I" } : Jvm.MethodName) ({ cls := "NameSeekerModel", name := "word", desc := "(I)I" } : Jvm.MethodName)) ∈ TB := tbI 894 rfl rfl
set_option maxRecDepth 100000 in
theorem tb_895 : (Jvm.Cond.code ({ cls := "NameSeekerModel", name := "word", desc := "(I)I" } : Jvm.MethodName) prog_12_method_21_code (2 : Nat) (Option.some Jvm.ClassFile.FieldType.int)) ∈ TB := tbI 895 rfl rfl
set_option maxRecDepth 100000 in
theorem tb_896 : (Jvm.Cond.methodLink "NameSeekerLaw" (59 : Nat) ({ cls := "NameSeekerModel", name := "pick", desc := "(I)I" } : Jvm.MethodName)) ∈ TB := tbI 896 rfl rfl
set_option maxRecDepth 100000 in
theorem tb_897 : (Jvm.Cond.instanceMethod ({ cls := "NameSeekerModel", name := "pick", desc := "(I)I" } : Jvm.MethodName)) ∈ TB := tbI 897 rfl rfl
set_option maxRecDepth 100000 in
theorem tb_898 : (Jvm.Cond.selects "NameSeekerModel" ({ cls := "NameSeekerModel", name := "pick", desc := "(I)I" } : Jvm.MethodName) ({ cls := "NameSeekerModel", name := "pick", desc := "(I)I" } : Jvm.MethodName)) ∈ TB := tbI 898 rfl rfl
set_option maxRecDepth 100000 in
theorem tb_899 : (Jvm.Cond.code ({ cls := "NameSeekerModel", name := "pick", desc := "(I)I" } : Jvm.MethodName) prog_12_method_23_code (2 : Nat) (Option.some Jvm.ClassFile.FieldType.int)) ∈ TB := tbI 899 rfl rfl
set_option maxRecDepth 100000 in
theorem tb_900 : (Jvm.Cond.methodLink "NameSeekerLaw" (63 : Nat) ({ cls := "NameSeekerModel", name := "forget", desc := "(I)I" } : Jvm.MethodName)) ∈ TB := tbI 900 rfl rfl
set_option maxRecDepth 100000 in
theorem tb_901 : (Jvm.Cond.instanceMethod ({ cls := "NameSeekerModel", name := "forget", desc := "(I)I" } : Jvm.MethodName)) ∈ TB := tbI 901 rfl rfl
set_option maxRecDepth 100000 in
theorem tb_902 : (Jvm.Cond.selects "NameSeekerModel" ({ cls := "NameSeekerModel", name := "forget", desc := "(I)I" } : Jvm.MethodName) ({ cls := "NameSeekerModel", name := "forget", desc := "(I)I" } : Jvm.MethodName)) ∈ TB := tbI 902 rfl rfl
set_option maxRecDepth 100000 in
theorem tb_903 : (Jvm.Cond.code ({ cls := "NameSeekerModel", name := "forget", desc := "(I)I" } : Jvm.MethodName) prog_12_method_24_code (3 : Nat) (Option.some Jvm.ClassFile.FieldType.int)) ∈ TB := tbI 903 rfl rfl
set_option maxRecDepth 100000 in
theorem tb_904 : (Jvm.Cond.methodLink "NameSeekerLaw" (67 : Nat) ({ cls := "NameSeekerModel", name := "drop", desc := "(I)I" } : Jvm.MethodName)) ∈ TB := tbI 904 rfl rfl
set_option maxRecDepth 100000 in
theorem tb_905 : (Jvm.Cond.instanceMethod ({ cls := "NameSeekerModel", name := "drop", desc := "(I)I" } : Jvm.MethodName)) ∈ TB := tbI 905 rfl rfl
set_option maxRecDepth 100000 in
theorem tb_906 : (Jvm.Cond.selects "NameSeekerModel" ({ cls := "NameSeekerModel", name := "drop", desc := "(I)I" } : Jvm.MethodName) ({ cls := "NameSeekerModel", name := "drop", desc := "(I)I" } : Jvm.MethodName)) ∈ TB := tbI 906 rfl rfl
set_option maxRecDepth 100000 in
theorem tb_907 : (Jvm.Cond.code ({ cls := "NameSeekerModel", name := "drop", desc := "(I)I" } : Jvm.MethodName) prog_12_method_25_code (4 : Nat) (Option.some Jvm.ClassFile.FieldType.int)) ∈ TB := tbI 907 rfl rfl
set_option maxRecDepth 100000 in
theorem tb_908 : (Jvm.Cond.methodLink "NameSeekerLaw" (71 : Nat) ({ cls := "NameSeekerModel", name := "rename", desc := "(II)I" } : Jvm.MethodName)) ∈ TB := tbI 908 rfl rfl
set_option maxRecDepth 100000 in
theorem tb_909 : (Jvm.Cond.instanceMethod ({ cls := "NameSeekerModel", name := "rename", desc := "(II)I" } : Jvm.MethodName)) ∈ TB := tbI 909 rfl rfl
set_option maxRecDepth 100000 in
theorem tb_910 : (Jvm.Cond.selects "NameSeekerModel" ({ cls := "NameSeekerModel", name := "rename", desc := "(II)I" } : Jvm.MethodName) ({ cls := "NameSeekerModel", name := "rename", desc := "(II)I" } : Jvm.MethodName)) ∈ TB := tbI 910 rfl rfl
set_option maxRecDepth 100000 in
theorem tb_911 : (Jvm.Cond.code ({ cls := "NameSeekerModel", name := "rename", desc := "(II)I" } : Jvm.MethodName) prog_12_method_26_code (4 : Nat) (Option.some Jvm.ClassFile.FieldType.int)) ∈ TB := tbI 911 rfl rfl
set_option maxRecDepth 100000 in
theorem tb_912 : (Jvm.Cond.methodLink "NameSeekerLaw" (76 : Nat) ({ cls := "NameSeekerModel", name := "worth", desc := "(III)I" } : Jvm.MethodName)) ∈ TB := tbI 912 rfl rfl
set_option maxRecDepth 100000 in
theorem tb_913 : (Jvm.Cond.instanceMethod ({ cls := "NameSeekerModel", name := "worth", desc := "(III)I" } : Jvm.MethodName)) ∈ TB := tbI 913 rfl rfl
set_option maxRecDepth 100000 in
theorem tb_914 : (Jvm.Cond.selects "NameSeekerModel" ({ cls := "NameSeekerModel", name := "worth", desc := "(III)I" } : Jvm.MethodName) ({ cls := "NameSeekerModel", name := "worth", desc := "(III)I" } : Jvm.MethodName)) ∈ TB := tbI 914 rfl rfl
set_option maxRecDepth 100000 in
theorem tb_915 : (Jvm.Cond.code ({ cls := "NameSeekerModel", name := "worth", desc := "(III)I" } : Jvm.MethodName) prog_12_method_27_code (4 : Nat) (Option.some Jvm.ClassFile.FieldType.int)) ∈ TB := tbI 915 rfl rfl
set_option maxRecDepth 100000 in
theorem tb_916 : (Jvm.Cond.methodLink "NameSeekerLaw" (80 : Nat) ({ cls := "NameSeekerModel", name := "score", desc := "(I)I" } : Jvm.MethodName)) ∈ TB := tbI 916 rfl rfl
set_option maxRecDepth 100000 in
theorem tb_917 : (Jvm.Cond.instanceMethod ({ cls := "NameSeekerModel", name := "score", desc := "(I)I" } : Jvm.MethodName)) ∈ TB := tbI 917 rfl rfl
set_option maxRecDepth 100000 in
theorem tb_918 : (Jvm.Cond.selects "NameSeekerModel" ({ cls := "NameSeekerModel", name := "score", desc := "(I)I" } : Jvm.MethodName) ({ cls := "NameSeekerModel", name := "score", desc := "(I)I" } : Jvm.MethodName)) ∈ TB := tbI 918 rfl rfl
set_option maxRecDepth 100000 in
theorem tb_919 : (Jvm.Cond.code ({ cls := "NameSeekerModel", name := "score", desc := "(I)I" } : Jvm.MethodName) prog_12_method_38_code (2 : Nat) (Option.some Jvm.ClassFile.FieldType.int)) ∈ TB := tbI 919 rfl rfl
set_option maxRecDepth 100000 in
theorem tb_920 : (Jvm.Cond.methodLink "NameSeekerModel" (204 : Nat) ({ cls := "NameSeekerModel", name := "sought", desc := "(I)I" } : Jvm.MethodName)) ∈ TB := tbI 920 rfl rfl
set_option maxRecDepth 100000 in
theorem tb_922 : (Jvm.Cond.instanceMethod ({ cls := "NameSeekerModel", name := "sought", desc := "(I)I" } : Jvm.MethodName)) ∈ TB := tbI 922 rfl rfl
set_option maxRecDepth 100000 in
theorem tb_923 : (Jvm.Cond.code ({ cls := "NameSeekerModel", name := "sought", desc := "(I)I" } : Jvm.MethodName) prog_12_method_37_code (5 : Nat) (Option.some Jvm.ClassFile.FieldType.int)) ∈ TB := tbI 923 rfl rfl
set_option maxRecDepth 100000 in
theorem tb_924 : (Jvm.Cond.methodLink "NameSeekerModel" (182 : Nat) ({ cls := "NameSeekerModel", name := "code", desc := "()J" } : Jvm.MethodName)) ∈ TB := tbI 924 rfl rfl
set_option maxRecDepth 100000 in
theorem tb_926 : (Jvm.Cond.instanceMethod ({ cls := "NameSeekerModel", name := "code", desc := "()J" } : Jvm.MethodName)) ∈ TB := tbI 926 rfl rfl
set_option maxRecDepth 100000 in
theorem tb_927 : (Jvm.Cond.code ({ cls := "NameSeekerModel", name := "code", desc := "()J" } : Jvm.MethodName) prog_12_method_22_code (5 : Nat) (Option.some Jvm.ClassFile.FieldType.long)) ∈ TB := tbI 927 rfl rfl
set_option maxRecDepth 100000 in
theorem tb_928 : (Jvm.Cond.constantLong "NameSeekerModel" (152 : Nat) (53 : Int64)) ∈ TB := tbI 928 rfl rfl
set_option maxRecDepth 100000 in
theorem tb_929 : (Jvm.Cond.constantLong "NameSeekerModel" (186 : Nat) (31 : Int64)) ∈ TB := tbI 929 rfl rfl
set_option maxRecDepth 100000 in
theorem tb_930 : (Jvm.Cond.constantLong "NameSeekerModel" (188 : Nat) (7 : Int64)) ∈ TB := tbI 930 rfl rfl
set_option maxRecDepth 100000 in
theorem tb_931 : (Jvm.Cond.constantLong "NameSeekerModel" (190 : Nat) (32 : Int64)) ∈ TB := tbI 931 rfl rfl
set_option maxRecDepth 100000 in
theorem tb_932 : (Jvm.Cond.methodLink "NameSeekerModel" (198 : Nat) ({ cls := "NameSeekerModel", name := "triesWord", desc := "()V" } : Jvm.MethodName)) ∈ TB := tbI 932 rfl rfl
set_option maxRecDepth 100000 in
theorem tb_934 : (Jvm.Cond.instanceMethod ({ cls := "NameSeekerModel", name := "triesWord", desc := "()V" } : Jvm.MethodName)) ∈ TB := tbI 934 rfl rfl
set_option maxRecDepth 100000 in
theorem tb_935 : (Jvm.Cond.code ({ cls := "NameSeekerModel", name := "triesWord", desc := "()V" } : Jvm.MethodName) prog_12_method_34_code (2 : Nat) (Option.none : Option Jvm.ClassFile.FieldType)) ∈ TB := tbI 935 rfl rfl
set_option maxRecDepth 100000 in
theorem tb_936 : (Jvm.Cond.methodLink "NameSeekerModel" (201 : Nat) ({ cls := "NameSeekerModel", name := "waysOf", desc := "(I)I" } : Jvm.MethodName)) ∈ TB := tbI 936 rfl rfl
set_option maxRecDepth 100000 in
theorem tb_938 : (Jvm.Cond.instanceMethod ({ cls := "NameSeekerModel", name := "waysOf", desc := "(I)I" } : Jvm.MethodName)) ∈ TB := tbI 938 rfl rfl
set_option maxRecDepth 100000 in
theorem tb_939 : (Jvm.Cond.code ({ cls := "NameSeekerModel", name := "waysOf", desc := "(I)I" } : Jvm.MethodName) prog_12_method_33_code (6 : Nat) (Option.some Jvm.ClassFile.FieldType.int)) ∈ TB := tbI 939 rfl rfl
set_option maxRecDepth 100000 in
theorem tb_940 : (Jvm.Cond.methodLink "NameSeekerModel" (170 : Nat) ({ cls := "NameSeekerModel", name := "isWay", desc := "(I)Z" } : Jvm.MethodName)) ∈ TB := tbI 940 rfl rfl
set_option maxRecDepth 100000 in
theorem tb_942 : (Jvm.Cond.instanceMethod ({ cls := "NameSeekerModel", name := "isWay", desc := "(I)Z" } : Jvm.MethodName)) ∈ TB := tbI 942 rfl rfl
set_option maxRecDepth 100000 in
theorem tb_943 : (Jvm.Cond.code ({ cls := "NameSeekerModel", name := "isWay", desc := "(I)Z" } : Jvm.MethodName) prog_12_method_31_code (3 : Nat) (Option.some Jvm.ClassFile.FieldType.boolean)) ∈ TB := tbI 943 rfl rfl
set_option maxRecDepth 100000 in
theorem tb_944 : (Jvm.Cond.methodLink "NameSeekerModel" (163 : Nat) ({ cls := "NameSeekerModel", name := "isAlike", desc := "(III)Z" } : Jvm.MethodName)) ∈ TB := tbI 944 rfl rfl
set_option maxRecDepth 100000 in
theorem tb_946 : (Jvm.Cond.instanceMethod ({ cls := "NameSeekerModel", name := "isAlike", desc := "(III)Z" } : Jvm.MethodName)) ∈ TB := tbI 946 rfl rfl
set_option maxRecDepth 100000 in
theorem tb_947 : (Jvm.Cond.code ({ cls := "NameSeekerModel", name := "isAlike", desc := "(III)Z" } : Jvm.MethodName) prog_12_method_29_code (5 : Nat) (Option.some Jvm.ClassFile.FieldType.boolean)) ∈ TB := tbI 947 rfl rfl
set_option maxRecDepth 100000 in
theorem tb_948 : (Jvm.Cond.methodLink "NameSeekerModel" (157 : Nat) ({ cls := "NameSeekerModel", name := "low", desc := "(I)I" } : Jvm.MethodName)) ∈ TB := tbI 948 rfl rfl
set_option maxRecDepth 100000 in
theorem tb_949 : (Jvm.Cond.static ({ cls := "NameSeekerModel", name := "low", desc := "(I)I" } : Jvm.MethodName)) ∈ TB := tbI 949 rfl rfl
set_option maxRecDepth 100000 in
theorem tb_950 : (Jvm.Cond.code ({ cls := "NameSeekerModel", name := "low", desc := "(I)I" } : Jvm.MethodName) prog_12_method_28_code (1 : Nat) (Option.some Jvm.ClassFile.FieldType.int)) ∈ TB := tbI 950 rfl rfl
set_option maxRecDepth 100000 in
theorem tb_951 : (Jvm.Cond.methodLink "NameSeekerModel" (173 : Nat) ({ cls := "NameSeekerModel", name := "worthOfWay", desc := "(I)I" } : Jvm.MethodName)) ∈ TB := tbI 951 rfl rfl
set_option maxRecDepth 100000 in
theorem tb_953 : (Jvm.Cond.instanceMethod ({ cls := "NameSeekerModel", name := "worthOfWay", desc := "(I)I" } : Jvm.MethodName)) ∈ TB := tbI 953 rfl rfl
set_option maxRecDepth 100000 in
theorem tb_954 : (Jvm.Cond.code ({ cls := "NameSeekerModel", name := "worthOfWay", desc := "(I)I" } : Jvm.MethodName) prog_12_method_32_code (5 : Nat) (Option.some Jvm.ClassFile.FieldType.int)) ∈ TB := tbI 954 rfl rfl
set_option maxRecDepth 100000 in
theorem tb_955 : (Jvm.Cond.methodLink "NameSeekerModel" (176 : Nat) ({ cls := "NameSeekerModel", name := "goesOn", desc := "(I)Z" } : Jvm.MethodName)) ∈ TB := tbI 955 rfl rfl
set_option maxRecDepth 100000 in
theorem tb_957 : (Jvm.Cond.instanceMethod ({ cls := "NameSeekerModel", name := "goesOn", desc := "(I)Z" } : Jvm.MethodName)) ∈ TB := tbI 957 rfl rfl
set_option maxRecDepth 100000 in
theorem tb_958 : (Jvm.Cond.code ({ cls := "NameSeekerModel", name := "goesOn", desc := "(I)Z" } : Jvm.MethodName) prog_12_method_30_code (4 : Nat) (Option.some Jvm.ClassFile.FieldType.boolean)) ∈ TB := tbI 958 rfl rfl
set_option maxRecDepth 100000 in
theorem tb_959 : (Jvm.Cond.methodLink "NameSeekerLaw" (84 : Nat) ({ cls := "NameSeekerModel", name := "list", desc := "(I)I" } : Jvm.MethodName)) ∈ TB := tbI 959 rfl rfl
set_option maxRecDepth 100000 in
theorem tb_960 : (Jvm.Cond.instanceMethod ({ cls := "NameSeekerModel", name := "list", desc := "(I)I" } : Jvm.MethodName)) ∈ TB := tbI 960 rfl rfl
set_option maxRecDepth 100000 in
theorem tb_961 : (Jvm.Cond.selects "NameSeekerModel" ({ cls := "NameSeekerModel", name := "list", desc := "(I)I" } : Jvm.MethodName) ({ cls := "NameSeekerModel", name := "list", desc := "(I)I" } : Jvm.MethodName)) ∈ TB := tbI 961 rfl rfl
set_option maxRecDepth 100000 in
theorem tb_962 : (Jvm.Cond.code ({ cls := "NameSeekerModel", name := "list", desc := "(I)I" } : Jvm.MethodName) prog_12_method_41_code (4 : Nat) (Option.some Jvm.ClassFile.FieldType.int)) ∈ TB := tbI 962 rfl rfl
set_option maxRecDepth 100000 in
theorem tb_963 : (Jvm.Cond.methodLink "NameSeekerModel" (213 : Nat) ({ cls := "NameSeekerModel", name := "passing", desc := "(I)Z" } : Jvm.MethodName)) ∈ TB := tbI 963 rfl rfl
set_option maxRecDepth 100000 in
theorem tb_965 : (Jvm.Cond.instanceMethod ({ cls := "NameSeekerModel", name := "passing", desc := "(I)Z" } : Jvm.MethodName)) ∈ TB := tbI 965 rfl rfl
set_option maxRecDepth 100000 in
theorem tb_966 : (Jvm.Cond.code ({ cls := "NameSeekerModel", name := "passing", desc := "(I)Z" } : Jvm.MethodName) prog_12_method_36_code (3 : Nat) (Option.some Jvm.ClassFile.FieldType.boolean)) ∈ TB := tbI 966 rfl rfl
set_option maxRecDepth 100000 in
theorem tb_967 : (Jvm.Cond.methodLink "NameSeekerModel" (179 : Nat) ({ cls := "NameSeekerModel", name := "has", desc := "(II)Z" } : Jvm.MethodName)) ∈ TB := tbI 967 rfl rfl
set_option maxRecDepth 100000 in
theorem tb_969 : (Jvm.Cond.instanceMethod ({ cls := "NameSeekerModel", name := "has", desc := "(II)Z" } : Jvm.MethodName)) ∈ TB := tbI 969 rfl rfl
set_option maxRecDepth 100000 in
theorem tb_970 : (Jvm.Cond.code ({ cls := "NameSeekerModel", name := "has", desc := "(II)Z" } : Jvm.MethodName) prog_12_method_35_code (4 : Nat) (Option.some Jvm.ClassFile.FieldType.boolean)) ∈ TB := tbI 970 rfl rfl
set_option maxRecDepth 100000 in
theorem tb_971 : (Jvm.Cond.methodLink "NameSeekerModel" (216 : Nat) ({ cls := "NameSeekerModel", name := "aheadOf", desc := "(I)I" } : Jvm.MethodName)) ∈ TB := tbI 971 rfl rfl
set_option maxRecDepth 100000 in
theorem tb_973 : (Jvm.Cond.instanceMethod ({ cls := "NameSeekerModel", name := "aheadOf", desc := "(I)I" } : Jvm.MethodName)) ∈ TB := tbI 973 rfl rfl
set_option maxRecDepth 100000 in
theorem tb_974 : (Jvm.Cond.code ({ cls := "NameSeekerModel", name := "aheadOf", desc := "(I)I" } : Jvm.MethodName) prog_12_method_40_code (4 : Nat) (Option.some Jvm.ClassFile.FieldType.int)) ∈ TB := tbI 974 rfl rfl
set_option maxRecDepth 100000 in
theorem tb_975 : (Jvm.Cond.methodLink "NameSeekerModel" (207 : Nat) ({ cls := "NameSeekerModel", name := "isAhead", desc := "(II)Z" } : Jvm.MethodName)) ∈ TB := tbI 975 rfl rfl
set_option maxRecDepth 100000 in
theorem tb_977 : (Jvm.Cond.instanceMethod ({ cls := "NameSeekerModel", name := "isAhead", desc := "(II)Z" } : Jvm.MethodName)) ∈ TB := tbI 977 rfl rfl
set_option maxRecDepth 100000 in
theorem tb_978 : (Jvm.Cond.code ({ cls := "NameSeekerModel", name := "isAhead", desc := "(II)Z" } : Jvm.MethodName) prog_12_method_39_code (3 : Nat) (Option.some Jvm.ClassFile.FieldType.boolean)) ∈ TB := tbI 978 rfl rfl
set_option maxRecDepth 100000 in
theorem tb_979 : (Jvm.Cond.methodLink "NameSeekerLaw" (88 : Nat) ({ cls := "NameSeekerModel", name := "best", desc := "(II)I" } : Jvm.MethodName)) ∈ TB := tbI 979 rfl rfl
set_option maxRecDepth 100000 in
theorem tb_980 : (Jvm.Cond.instanceMethod ({ cls := "NameSeekerModel", name := "best", desc := "(II)I" } : Jvm.MethodName)) ∈ TB := tbI 980 rfl rfl
set_option maxRecDepth 100000 in
theorem tb_981 : (Jvm.Cond.selects "NameSeekerModel" ({ cls := "NameSeekerModel", name := "best", desc := "(II)I" } : Jvm.MethodName) ({ cls := "NameSeekerModel", name := "best", desc := "(II)I" } : Jvm.MethodName)) ∈ TB := tbI 981 rfl rfl
set_option maxRecDepth 100000 in
theorem tb_982 : (Jvm.Cond.code ({ cls := "NameSeekerModel", name := "best", desc := "(II)I" } : Jvm.MethodName) prog_12_method_42_code (3 : Nat) (Option.some Jvm.ClassFile.FieldType.int)) ∈ TB := tbI 982 rfl rfl
set_option maxRecDepth 100000 in
theorem tb_983 : (Jvm.Cond.methodLink "NameSeekerLaw" (92 : Nat) ({ cls := "NameSeekerModel", name := "ways", desc := "(I)I" } : Jvm.MethodName)) ∈ TB := tbI 983 rfl rfl
set_option maxRecDepth 100000 in
theorem tb_984 : (Jvm.Cond.instanceMethod ({ cls := "NameSeekerModel", name := "ways", desc := "(I)I" } : Jvm.MethodName)) ∈ TB := tbI 984 rfl rfl
set_option maxRecDepth 100000 in
theorem tb_985 : (Jvm.Cond.selects "NameSeekerModel" ({ cls := "NameSeekerModel", name := "ways", desc := "(I)I" } : Jvm.MethodName) ({ cls := "NameSeekerModel", name := "ways", desc := "(I)I" } : Jvm.MethodName)) ∈ TB := tbI 985 rfl rfl
set_option maxRecDepth 100000 in
theorem tb_986 : (Jvm.Cond.code ({ cls := "NameSeekerModel", name := "ways", desc := "(I)I" } : Jvm.MethodName) prog_12_method_43_code (2 : Nat) (Option.some Jvm.ClassFile.FieldType.int)) ∈ TB := tbI 986 rfl rfl
set_option maxRecDepth 100000 in
theorem tb_987 : (Jvm.Cond.methodLink "NameSeekerLaw" (96 : Nat) ({ cls := "NameSeekerModel", name := "passes", desc := "(I)I" } : Jvm.MethodName)) ∈ TB := tbI 987 rfl rfl
set_option maxRecDepth 100000 in
theorem tb_988 : (Jvm.Cond.instanceMethod ({ cls := "NameSeekerModel", name := "passes", desc := "(I)I" } : Jvm.MethodName)) ∈ TB := tbI 988 rfl rfl
set_option maxRecDepth 100000 in
theorem tb_989 : (Jvm.Cond.selects "NameSeekerModel" ({ cls := "NameSeekerModel", name := "passes", desc := "(I)I" } : Jvm.MethodName) ({ cls := "NameSeekerModel", name := "passes", desc := "(I)I" } : Jvm.MethodName)) ∈ TB := tbI 989 rfl rfl
set_option maxRecDepth 100000 in
theorem tb_990 : (Jvm.Cond.code ({ cls := "NameSeekerModel", name := "passes", desc := "(I)I" } : Jvm.MethodName) prog_12_method_44_code (5 : Nat) (Option.some Jvm.ClassFile.FieldType.int)) ∈ TB := tbI 990 rfl rfl
set_option maxRecDepth 100000 in
theorem tb_991 : (Jvm.Cond.methodLink "NameSeekerLaw" (100 : Nat) ({ cls := "NameSeekerModel", name := "asked", desc := "(I)I" } : Jvm.MethodName)) ∈ TB := tbI 991 rfl rfl
set_option maxRecDepth 100000 in
theorem tb_992 : (Jvm.Cond.instanceMethod ({ cls := "NameSeekerModel", name := "asked", desc := "(I)I" } : Jvm.MethodName)) ∈ TB := tbI 992 rfl rfl
set_option maxRecDepth 100000 in
theorem tb_993 : (Jvm.Cond.selects "NameSeekerModel" ({ cls := "NameSeekerModel", name := "asked", desc := "(I)I" } : Jvm.MethodName) ({ cls := "NameSeekerModel", name := "asked", desc := "(I)I" } : Jvm.MethodName)) ∈ TB := tbI 993 rfl rfl
set_option maxRecDepth 100000 in
theorem tb_994 : (Jvm.Cond.code ({ cls := "NameSeekerModel", name := "asked", desc := "(I)I" } : Jvm.MethodName) prog_12_method_45_code (2 : Nat) (Option.some Jvm.ClassFile.FieldType.int)) ∈ TB := tbI 994 rfl rfl
set_option maxRecDepth 100000 in
theorem tb_995 : (Jvm.Cond.constantLong "NameSeekerModel" (219 : Nat) (100003 : Int64)) ∈ TB := tbI 995 rfl rfl
set_option maxRecDepth 100000 in
theorem tb_996 : (Jvm.Cond.methodLink "NameSeekerLaw" (104 : Nat) ({ cls := "NameSeekerModel", name := "brief", desc := "(I)I" } : Jvm.MethodName)) ∈ TB := tbI 996 rfl rfl
set_option maxRecDepth 100000 in
theorem tb_997 : (Jvm.Cond.instanceMethod ({ cls := "NameSeekerModel", name := "brief", desc := "(I)I" } : Jvm.MethodName)) ∈ TB := tbI 997 rfl rfl
set_option maxRecDepth 100000 in
theorem tb_998 : (Jvm.Cond.selects "NameSeekerModel" ({ cls := "NameSeekerModel", name := "brief", desc := "(I)I" } : Jvm.MethodName) ({ cls := "NameSeekerModel", name := "brief", desc := "(I)I" } : Jvm.MethodName)) ∈ TB := tbI 998 rfl rfl
set_option maxRecDepth 100000 in
theorem tb_999 : (Jvm.Cond.code ({ cls := "NameSeekerModel", name := "brief", desc := "(I)I" } : Jvm.MethodName) prog_12_method_47_code (5 : Nat) (Option.some Jvm.ClassFile.FieldType.int)) ∈ TB := tbI 999 rfl rfl
set_option maxRecDepth 100000 in
theorem tb_1000 : (Jvm.Cond.methodLink "NameSeekerModel" (221 : Nat) ({ cls := "NameSeekerModel", name := "isFirst", desc := "(I)Z" } : Jvm.MethodName)) ∈ TB := tbI 1000 rfl rfl
set_option maxRecDepth 100000 in
theorem tb_1002 : (Jvm.Cond.instanceMethod ({ cls := "NameSeekerModel", name := "isFirst", desc := "(I)Z" } : Jvm.MethodName)) ∈ TB := tbI 1002 rfl rfl
set_option maxRecDepth 100000 in
theorem tb_1003 : (Jvm.Cond.code ({ cls := "NameSeekerModel", name := "isFirst", desc := "(I)Z" } : Jvm.MethodName) prog_12_method_46_code (3 : Nat) (Option.some Jvm.ClassFile.FieldType.boolean)) ∈ TB := tbI 1003 rfl rfl
set_option maxRecDepth 100000 in
theorem tb_1004 : (Jvm.Cond.methodLink "NameSeekerLaw" (108 : Nat) ({ cls := "NameSeekerModel", name := "pair", desc := "(II)I" } : Jvm.MethodName)) ∈ TB := tbI 1004 rfl rfl
set_option maxRecDepth 100000 in
theorem tb_1005 : (Jvm.Cond.instanceMethod ({ cls := "NameSeekerModel", name := "pair", desc := "(II)I" } : Jvm.MethodName)) ∈ TB := tbI 1005 rfl rfl
set_option maxRecDepth 100000 in
theorem tb_1006 : (Jvm.Cond.selects "NameSeekerModel" ({ cls := "NameSeekerModel", name := "pair", desc := "(II)I" } : Jvm.MethodName) ({ cls := "NameSeekerModel", name := "pair", desc := "(II)I" } : Jvm.MethodName)) ∈ TB := tbI 1006 rfl rfl
set_option maxRecDepth 100000 in
theorem tb_1007 : (Jvm.Cond.code ({ cls := "NameSeekerModel", name := "pair", desc := "(II)I" } : Jvm.MethodName) prog_12_method_48_code (5 : Nat) (Option.some Jvm.ClassFile.FieldType.int)) ∈ TB := tbI 1007 rfl rfl
set_option maxRecDepth 100000 in
theorem tb_1008 : (Jvm.Cond.methodLink "NameSeekerLaw" (112 : Nat) ({ cls := "NameSeekerModel", name := "keep", desc := "()I" } : Jvm.MethodName)) ∈ TB := tbI 1008 rfl rfl
set_option maxRecDepth 100000 in
theorem tb_1009 : (Jvm.Cond.instanceMethod ({ cls := "NameSeekerModel", name := "keep", desc := "()I" } : Jvm.MethodName)) ∈ TB := tbI 1009 rfl rfl
set_option maxRecDepth 100000 in
theorem tb_1010 : (Jvm.Cond.selects "NameSeekerModel" ({ cls := "NameSeekerModel", name := "keep", desc := "()I" } : Jvm.MethodName) ({ cls := "NameSeekerModel", name := "keep", desc := "()I" } : Jvm.MethodName)) ∈ TB := tbI 1010 rfl rfl
set_option maxRecDepth 100000 in
theorem tb_1011 : (Jvm.Cond.code ({ cls := "NameSeekerModel", name := "keep", desc := "()I" } : Jvm.MethodName) prog_12_method_49_code (2 : Nat) (Option.some Jvm.ClassFile.FieldType.int)) ∈ TB := tbI 1011 rfl rfl
set_option maxRecDepth 100000 in
theorem tb_1012 : (Jvm.Cond.methodLink "NameSeekerLaw" (116 : Nat) ({ cls := "NameSeekerModel", name := "back", desc := "()I" } : Jvm.MethodName)) ∈ TB := tbI 1012 rfl rfl
set_option maxRecDepth 100000 in
theorem tb_1013 : (Jvm.Cond.instanceMethod ({ cls := "NameSeekerModel", name := "back", desc := "()I" } : Jvm.MethodName)) ∈ TB := tbI 1013 rfl rfl
set_option maxRecDepth 100000 in
theorem tb_1014 : (Jvm.Cond.selects "NameSeekerModel" ({ cls := "NameSeekerModel", name := "back", desc := "()I" } : Jvm.MethodName) ({ cls := "NameSeekerModel", name := "back", desc := "()I" } : Jvm.MethodName)) ∈ TB := tbI 1014 rfl rfl
set_option maxRecDepth 100000 in
theorem tb_1015 : (Jvm.Cond.code ({ cls := "NameSeekerModel", name := "back", desc := "()I" } : Jvm.MethodName) prog_12_method_50_code (2 : Nat) (Option.some Jvm.ClassFile.FieldType.int)) ∈ TB := tbI 1015 rfl rfl
set_option maxRecDepth 100000 in
theorem tb_1016 : (Jvm.Cond.methodLink "NameSeekerLaw" (120 : Nat) ({ cls := "NameSeekerModel", name := "count", desc := "(I)I" } : Jvm.MethodName)) ∈ TB := tbI 1016 rfl rfl
set_option maxRecDepth 100000 in
theorem tb_1017 : (Jvm.Cond.instanceMethod ({ cls := "NameSeekerModel", name := "count", desc := "(I)I" } : Jvm.MethodName)) ∈ TB := tbI 1017 rfl rfl
set_option maxRecDepth 100000 in
theorem tb_1018 : (Jvm.Cond.selects "NameSeekerModel" ({ cls := "NameSeekerModel", name := "count", desc := "(I)I" } : Jvm.MethodName) ({ cls := "NameSeekerModel", name := "count", desc := "(I)I" } : Jvm.MethodName)) ∈ TB := tbI 1018 rfl rfl
set_option maxRecDepth 100000 in
theorem tb_1019 : (Jvm.Cond.code ({ cls := "NameSeekerModel", name := "count", desc := "(I)I" } : Jvm.MethodName) prog_12_method_51_code (2 : Nat) (Option.some Jvm.ClassFile.FieldType.int)) ∈ TB := tbI 1019 rfl rfl
end
section
abbrev Ge : Type := va_G × (Nat → ClassId) × (Nat → Nat)
abbrev tysK (G : Ge) : List (ClassId × FieldType) := [(G.2.1 0, .char), (G.2.1 1, .int), (G.2.1 2, .long), (G.2.1 3, .object "NameSeeker$Name"), (G.2.1 4, .object "NameSeeker$Word"), (G.2.1 5, .array .int)]
def wC (G : Ge) (S : St) : va_W :=
  [(G.2.2 0, .inr (9, [.ref (G.2.2 1), .ref (G.2.2 3), .ref (G.2.2 5), .ref (G.2.2 (6 + 2 * 0)), .ref (G.2.2 (6 + 2 * 1)), .ref (G.2.2 14), .ref (G.2.2 15), .ref (G.2.2 31), .ref (G.2.2 36), .ref (G.2.2 38), .int (iI (S.1 56 0)), .int (iI (S.1 57 0)), .int (iI (S.1 58 0)), .int (iI (S.1 59 0))])),
   (G.2.2 1, .inr (7, [.ref (G.2.2 2), .int (iI (S.1 50 0))])),
   (G.2.2 2, .inl (G.2.1 0, 200, .inl (fun i : Nat => iI (S.1 0 i)))),
   (G.2.2 3, .inr (3, [.ref (G.2.2 4), .int (iI (S.1 51 0)), .int (iI (S.1 52 0))])),
   (G.2.2 4, .inl (G.2.1 3, 8, .inr (.inr (.inr (.inr (fun i : Nat => some (G.2.2 (41 + 2 * S.2 i)))))))),
   (G.2.2 5, .inr (6, [.int (iI (S.1 53 0)), .int (iI (S.1 54 0)), .int (iI (S.1 55 0))])),
   (G.2.2 (6 + 2 * 0), .inr (8, [.ref (G.2.2 (7 + 2 * 0)), .int (iI (S.1 8 ((0 : Nat) : Int)))])),
   (G.2.2 (7 + 2 * 0), .inl (G.2.1 0, 6, .inl (fun i : Nat => iI (S.1 (16 + 0) i)))),
   (G.2.2 (6 + 2 * 1), .inr (8, [.ref (G.2.2 (7 + 2 * 1)), .int (iI (S.1 8 ((1 : Nat) : Int)))])),
   (G.2.2 (7 + 2 * 1), .inl (G.2.1 0, 6, .inl (fun i : Nat => iI (S.1 (16 + 1) i)))),
   (G.2.2 (6 + 2 * 2), .inr (8, [.ref (G.2.2 (7 + 2 * 2)), .int (iI (S.1 8 ((2 : Nat) : Int)))])),
   (G.2.2 (7 + 2 * 2), .inl (G.2.1 0, 6, .inl (fun i : Nat => iI (S.1 (16 + 2) i)))),
   (G.2.2 (6 + 2 * 3), .inr (8, [.ref (G.2.2 (7 + 2 * 3)), .int (iI (S.1 8 ((3 : Nat) : Int)))])),
   (G.2.2 (7 + 2 * 3), .inl (G.2.1 0, 6, .inl (fun i : Nat => iI (S.1 (16 + 3) i)))),
   (G.2.2 14, .inl (G.2.1 4, 2, .inr (.inr (.inr (.inr (fun i : Nat => some (G.2.2 (6 + 2 * (2 + i))))))))),
   (G.2.2 15, .inr (2, [.ref (G.2.2 16), .ref (G.2.2 23), .ref (G.2.2 30), .int (iI (S.1 60 0))])),
   (G.2.2 16, .inl (G.2.1 5, 6, .inr (.inr (.inr (.inr (fun i : Nat => some (G.2.2 (17 + i)))))))),
   (G.2.2 (17 + 0), .inl (G.2.1 1, 12, .inl (fun i : Nat => iI (S.1 (30 + 0) i)))),
   (G.2.2 (17 + 1), .inl (G.2.1 1, 12, .inl (fun i : Nat => iI (S.1 (30 + 1) i)))),
   (G.2.2 (17 + 2), .inl (G.2.1 1, 12, .inl (fun i : Nat => iI (S.1 (30 + 2) i)))),
   (G.2.2 (17 + 3), .inl (G.2.1 1, 12, .inl (fun i : Nat => iI (S.1 (30 + 3) i)))),
   (G.2.2 (17 + 4), .inl (G.2.1 1, 12, .inl (fun i : Nat => iI (S.1 (30 + 4) i)))),
   (G.2.2 (17 + 5), .inl (G.2.1 1, 12, .inl (fun i : Nat => iI (S.1 (30 + 5) i)))),
   (G.2.2 23, .inl (G.2.1 5, 6, .inr (.inr (.inr (.inr (fun i : Nat => some (G.2.2 (24 + i)))))))),
   (G.2.2 (24 + 0), .inl (G.2.1 1, 12, .inl (fun i : Nat => iI (S.1 (40 + 0) i)))),
   (G.2.2 (24 + 1), .inl (G.2.1 1, 12, .inl (fun i : Nat => iI (S.1 (40 + 1) i)))),
   (G.2.2 (24 + 2), .inl (G.2.1 1, 12, .inl (fun i : Nat => iI (S.1 (40 + 2) i)))),
   (G.2.2 (24 + 3), .inl (G.2.1 1, 12, .inl (fun i : Nat => iI (S.1 (40 + 3) i)))),
   (G.2.2 (24 + 4), .inl (G.2.1 1, 12, .inl (fun i : Nat => iI (S.1 (40 + 4) i)))),
   (G.2.2 (24 + 5), .inl (G.2.1 1, 12, .inl (fun i : Nat => iI (S.1 (40 + 5) i)))),
   (G.2.2 30, .inl (G.2.1 1, 7, .inl (fun i : Nat => iI (S.1 9 i)))),
   (G.2.2 31, .inr (1, [.ref (G.2.2 32), .ref (G.2.2 33), .ref (G.2.2 34), .ref (G.2.2 35), .int (iI (S.1 61 0)), .int (iI (S.1 62 0))])),
   (G.2.2 32, .inl (G.2.1 1, 32, .inl (fun i : Nat => iI (S.1 10 i)))),
   (G.2.2 33, .inl (G.2.1 2, 32, .inr (.inl (fun i : Nat => lI (S.1 11 i))))),
   (G.2.2 34, .inl (G.2.1 1, 32, .inl (fun i : Nat => iI (S.1 12 i)))),
   (G.2.2 35, .inl (G.2.1 1, 32, .inl (fun i : Nat => iI (S.1 13 i)))),
   (G.2.2 36, .inr (0, [.ref (G.2.2 37), .int (iI (S.1 63 0))])),
   (G.2.2 37, .inl (G.2.1 2, 6, .inr (.inl (fun i : Nat => lI (S.1 14 i))))),
   (G.2.2 38, .inr (5, [.ref (G.2.2 39), .ref (G.2.2 40), .int (iI (S.1 64 0))])),
   (G.2.2 39, .inl (G.2.1 1, 8, .inl (fun i : Nat => iI (S.1 15 i)))),
   (G.2.2 40, .inl (G.2.1 1, 8, .inl (fun i : Nat => iI (S.1 29 i)))),
   (G.2.2 (41 + 2 * 0), .inr (4, [.ref (G.2.2 (42 + 2 * 0)), .int (iI (S.1 2 ((0 : Nat) : Int))), .int (iI (S.1 3 ((0 : Nat) : Int))), .int (iI (S.1 4 ((0 : Nat) : Int))), .int (iI (S.1 5 ((0 : Nat) : Int))), .int (iI (S.1 6 ((0 : Nat) : Int))), .int (iI (S.1 7 ((0 : Nat) : Int)))])),
   (G.2.2 (42 + 2 * 0), .inl (G.2.1 0, 12, .inl (fun i : Nat => iI (S.1 (20 + 0) i)))),
   (G.2.2 (41 + 2 * 1), .inr (4, [.ref (G.2.2 (42 + 2 * 1)), .int (iI (S.1 2 ((1 : Nat) : Int))), .int (iI (S.1 3 ((1 : Nat) : Int))), .int (iI (S.1 4 ((1 : Nat) : Int))), .int (iI (S.1 5 ((1 : Nat) : Int))), .int (iI (S.1 6 ((1 : Nat) : Int))), .int (iI (S.1 7 ((1 : Nat) : Int)))])),
   (G.2.2 (42 + 2 * 1), .inl (G.2.1 0, 12, .inl (fun i : Nat => iI (S.1 (20 + 1) i)))),
   (G.2.2 (41 + 2 * 2), .inr (4, [.ref (G.2.2 (42 + 2 * 2)), .int (iI (S.1 2 ((2 : Nat) : Int))), .int (iI (S.1 3 ((2 : Nat) : Int))), .int (iI (S.1 4 ((2 : Nat) : Int))), .int (iI (S.1 5 ((2 : Nat) : Int))), .int (iI (S.1 6 ((2 : Nat) : Int))), .int (iI (S.1 7 ((2 : Nat) : Int)))])),
   (G.2.2 (42 + 2 * 2), .inl (G.2.1 0, 12, .inl (fun i : Nat => iI (S.1 (20 + 2) i)))),
   (G.2.2 (41 + 2 * 3), .inr (4, [.ref (G.2.2 (42 + 2 * 3)), .int (iI (S.1 2 ((3 : Nat) : Int))), .int (iI (S.1 3 ((3 : Nat) : Int))), .int (iI (S.1 4 ((3 : Nat) : Int))), .int (iI (S.1 5 ((3 : Nat) : Int))), .int (iI (S.1 6 ((3 : Nat) : Int))), .int (iI (S.1 7 ((3 : Nat) : Int)))])),
   (G.2.2 (42 + 2 * 3), .inl (G.2.1 0, 12, .inl (fun i : Nat => iI (S.1 (20 + 3) i)))),
   (G.2.2 (41 + 2 * 4), .inr (4, [.ref (G.2.2 (42 + 2 * 4)), .int (iI (S.1 2 ((4 : Nat) : Int))), .int (iI (S.1 3 ((4 : Nat) : Int))), .int (iI (S.1 4 ((4 : Nat) : Int))), .int (iI (S.1 5 ((4 : Nat) : Int))), .int (iI (S.1 6 ((4 : Nat) : Int))), .int (iI (S.1 7 ((4 : Nat) : Int)))])),
   (G.2.2 (42 + 2 * 4), .inl (G.2.1 0, 12, .inl (fun i : Nat => iI (S.1 (20 + 4) i)))),
   (G.2.2 (41 + 2 * 5), .inr (4, [.ref (G.2.2 (42 + 2 * 5)), .int (iI (S.1 2 ((5 : Nat) : Int))), .int (iI (S.1 3 ((5 : Nat) : Int))), .int (iI (S.1 4 ((5 : Nat) : Int))), .int (iI (S.1 5 ((5 : Nat) : Int))), .int (iI (S.1 6 ((5 : Nat) : Int))), .int (iI (S.1 7 ((5 : Nat) : Int)))])),
   (G.2.2 (42 + 2 * 5), .inl (G.2.1 0, 12, .inl (fun i : Nat => iI (S.1 (20 + 5) i)))),
   (G.2.2 (41 + 2 * 6), .inr (4, [.ref (G.2.2 (42 + 2 * 6)), .int (iI (S.1 2 ((6 : Nat) : Int))), .int (iI (S.1 3 ((6 : Nat) : Int))), .int (iI (S.1 4 ((6 : Nat) : Int))), .int (iI (S.1 5 ((6 : Nat) : Int))), .int (iI (S.1 6 ((6 : Nat) : Int))), .int (iI (S.1 7 ((6 : Nat) : Int)))])),
   (G.2.2 (42 + 2 * 6), .inl (G.2.1 0, 12, .inl (fun i : Nat => iI (S.1 (20 + 6) i)))),
   (G.2.2 (41 + 2 * 7), .inr (4, [.ref (G.2.2 (42 + 2 * 7)), .int (iI (S.1 2 ((7 : Nat) : Int))), .int (iI (S.1 3 ((7 : Nat) : Int))), .int (iI (S.1 4 ((7 : Nat) : Int))), .int (iI (S.1 5 ((7 : Nat) : Int))), .int (iI (S.1 6 ((7 : Nat) : Int))), .int (iI (S.1 7 ((7 : Nat) : Int)))])),
   (G.2.2 (42 + 2 * 7), .inl (G.2.1 0, 12, .inl (fun i : Nat => iI (S.1 (20 + 7) i))))]
def frC (G : Ge) : Nat → Prop := fun q => ∃ i : Nat, i < 57 ∧ q = G.2.2 i
abbrev KC (G : Ge) : Sd := (G.1, tysK G, wC G, frC G)
section SDC
variable {p : Program} {l : Launch} {e : Env} {R : Room} {s : State} {m : MethodId} {args : Array Value} {below : List Frame} {meth : Method} {c : Code} {H : Heap} {locs : List Loc} {cells slots : Nat} {Q : State → Prop}
variable {cc : ByteArray} {pc nL : Nat} {ls : Array Slot} {rest : List Value} {own : String} {S : St} {H0 : Heap} {G : Ge}
theorem atC_ns : (wC G S)[0]? = some (G.2.2 0, .inr (9, [.ref (G.2.2 1), .ref (G.2.2 3), .ref (G.2.2 5), .ref (G.2.2 (6 + 2 * 0)), .ref (G.2.2 (6 + 2 * 1)), .ref (G.2.2 14), .ref (G.2.2 15), .ref (G.2.2 31), .ref (G.2.2 36), .ref (G.2.2 38), .int (iI (S.1 56 0)), .int (iI (S.1 57 0)), .int (iI (S.1 58 0)), .int (iI (S.1 59 0))])) := rfl
theorem gC_ns_text (X : CallFix p m c cc nL s args TB own) (I : In (KC G) s H0 H locs S) {idx : Nat} (hk : Cond.fieldLink own idx "NameSeeker" "text" "LNameSeeker$Text;" ∈ TB) (hdg : decode cc pc = .ok (.getfield idx, 3)) (kk : W p l e R s m args below meth c H locs cells slots Q (F0 m (pc + 3) ls (.ref (G.2.2 1) :: rest))) : W p l e R s m args below meth c H locs cells slots Q (F0 m pc ls (.ref (G.2.2 0) :: rest)) := gI X I (ci := 9) (C := RX9) (T := TX9) (N := 14) _ (atC_ns) rfl inlX9 0 (by decide) hk rfl hdg kk
theorem gC_ns_lot (X : CallFix p m c cc nL s args TB own) (I : In (KC G) s H0 H locs S) {idx : Nat} (hk : Cond.fieldLink own idx "NameSeeker" "lot" "LNameSeeker$Lot;" ∈ TB) (hdg : decode cc pc = .ok (.getfield idx, 3)) (kk : W p l e R s m args below meth c H locs cells slots Q (F0 m (pc + 3) ls (.ref (G.2.2 3) :: rest))) : W p l e R s m args below meth c H locs cells slots Q (F0 m pc ls (.ref (G.2.2 0) :: rest)) := gI X I (ci := 9) (C := RX9) (T := TX9) (N := 14) _ (atC_ns) rfl inlX9 1 (by decide) hk rfl hdg kk
theorem gC_ns_scales (X : CallFix p m c cc nL s args TB own) (I : In (KC G) s H0 H locs S) {idx : Nat} (hk : Cond.fieldLink own idx "NameSeeker" "scales" "LNameSeeker$Scales;" ∈ TB) (hdg : decode cc pc = .ok (.getfield idx, 3)) (kk : W p l e R s m args below meth c H locs cells slots Q (F0 m (pc + 3) ls (.ref (G.2.2 5) :: rest))) : W p l e R s m args below meth c H locs cells slots Q (F0 m pc ls (.ref (G.2.2 0) :: rest)) := gI X I (ci := 9) (C := RX9) (T := TX9) (N := 14) _ (atC_ns) rfl inlX9 2 (by decide) hk rfl hdg kk
theorem gC_ns_typed (X : CallFix p m c cc nL s args TB own) (I : In (KC G) s H0 H locs S) {idx : Nat} (hk : Cond.fieldLink own idx "NameSeeker" "typed" "LNameSeeker$Word;" ∈ TB) (hdg : decode cc pc = .ok (.getfield idx, 3)) (kk : W p l e R s m args below meth c H locs cells slots Q (F0 m (pc + 3) ls (.ref (G.2.2 (6 + 2 * 0)) :: rest))) : W p l e R s m args below meth c H locs cells slots Q (F0 m pc ls (.ref (G.2.2 0) :: rest)) := gI X I (ci := 9) (C := RX9) (T := TX9) (N := 14) _ (atC_ns) rfl inlX9 3 (by decide) hk rfl hdg kk
theorem gC_ns_tried (X : CallFix p m c cc nL s args TB own) (I : In (KC G) s H0 H locs S) {idx : Nat} (hk : Cond.fieldLink own idx "NameSeeker" "tried" "LNameSeeker$Word;" ∈ TB) (hdg : decode cc pc = .ok (.getfield idx, 3)) (kk : W p l e R s m args below meth c H locs cells slots Q (F0 m (pc + 3) ls (.ref (G.2.2 (6 + 2 * 1)) :: rest))) : W p l e R s m args below meth c H locs cells slots Q (F0 m pc ls (.ref (G.2.2 0) :: rest)) := gI X I (ci := 9) (C := RX9) (T := TX9) (N := 14) _ (atC_ns) rfl inlX9 4 (by decide) hk rfl hdg kk
theorem gC_ns_kept (X : CallFix p m c cc nL s args TB own) (I : In (KC G) s H0 H locs S) {idx : Nat} (hk : Cond.fieldLink own idx "NameSeeker" "kept" "[LNameSeeker$Word;" ∈ TB) (hdg : decode cc pc = .ok (.getfield idx, 3)) (kk : W p l e R s m args below meth c H locs cells slots Q (F0 m (pc + 3) ls (.ref (G.2.2 14) :: rest))) : W p l e R s m args below meth c H locs cells slots Q (F0 m pc ls (.ref (G.2.2 0) :: rest)) := gI X I (ci := 9) (C := RX9) (T := TX9) (N := 14) _ (atC_ns) rfl inlX9 5 (by decide) hk rfl hdg kk
theorem gC_ns_laying (X : CallFix p m c cc nL s args TB own) (I : In (KC G) s H0 H locs S) {idx : Nat} (hk : Cond.fieldLink own idx "NameSeeker" "laying" "LNameSeeker$Laying;" ∈ TB) (hdg : decode cc pc = .ok (.getfield idx, 3)) (kk : W p l e R s m args below meth c H locs cells slots Q (F0 m (pc + 3) ls (.ref (G.2.2 15) :: rest))) : W p l e R s m args below meth c H locs cells slots Q (F0 m pc ls (.ref (G.2.2 0) :: rest)) := gI X I (ci := 9) (C := RX9) (T := TX9) (N := 14) _ (atC_ns) rfl inlX9 6 (by decide) hk rfl hdg kk
theorem gC_ns_known (X : CallFix p m c cc nL s args TB own) (I : In (KC G) s H0 H locs S) {idx : Nat} (hk : Cond.fieldLink own idx "NameSeeker" "known" "LNameSeeker$Known;" ∈ TB) (hdg : decode cc pc = .ok (.getfield idx, 3)) (kk : W p l e R s m args below meth c H locs cells slots Q (F0 m (pc + 3) ls (.ref (G.2.2 31) :: rest))) : W p l e R s m args below meth c H locs cells slots Q (F0 m pc ls (.ref (G.2.2 0) :: rest)) := gI X I (ci := 9) (C := RX9) (T := TX9) (N := 14) _ (atC_ns) rfl inlX9 7 (by decide) hk rfl hdg kk
theorem gC_ns_askedCodes (X : CallFix p m c cc nL s args TB own) (I : In (KC G) s H0 H locs S) {idx : Nat} (hk : Cond.fieldLink own idx "NameSeeker" "askedCodes" "LNameSeeker$Asked;" ∈ TB) (hdg : decode cc pc = .ok (.getfield idx, 3)) (kk : W p l e R s m args below meth c H locs cells slots Q (F0 m (pc + 3) ls (.ref (G.2.2 36) :: rest))) : W p l e R s m args below meth c H locs cells slots Q (F0 m pc ls (.ref (G.2.2 0) :: rest)) := gI X I (ci := 9) (C := RX9) (T := TX9) (N := 14) _ (atC_ns) rfl inlX9 8 (by decide) hk rfl hdg kk
theorem gC_ns_ranking (X : CallFix p m c cc nL s args TB own) (I : In (KC G) s H0 H locs S) {idx : Nat} (hk : Cond.fieldLink own idx "NameSeeker" "ranking" "LNameSeeker$Ranking;" ∈ TB) (hdg : decode cc pc = .ok (.getfield idx, 3)) (kk : W p l e R s m args below meth c H locs cells slots Q (F0 m (pc + 3) ls (.ref (G.2.2 38) :: rest))) : W p l e R s m args below meth c H locs cells slots Q (F0 m pc ls (.ref (G.2.2 0) :: rest)) := gI X I (ci := 9) (C := RX9) (T := TX9) (N := 14) _ (atC_ns) rfl inlX9 9 (by decide) hk rfl hdg kk
theorem gC_ns_keptSize (X : CallFix p m c cc nL s args TB own) (I : In (KC G) s H0 H locs S) {idx : Nat} {v : Int} (hv : S.1 56 0 = v) (hk : Cond.fieldLink own idx "NameSeeker" "keptSize" "I" ∈ TB) (hdg : decode cc pc = .ok (.getfield idx, 3)) (kk : W p l e R s m args below meth c H locs cells slots Q (F0 m (pc + 3) ls (.int (iI v) :: rest))) : W p l e R s m args below meth c H locs cells slots Q (F0 m pc ls (.ref (G.2.2 0) :: rest)) := by
  subst hv
  exact gI X I (ci := 9) (C := RX9) (T := TX9) (N := 14) _ (atC_ns) rfl inlX9 10 (by decide) hk rfl hdg kk
theorem sC_ns_keptSize {v : Int} : (wC G S).set 0 (G.2.2 0, .inr (9, [.ref (G.2.2 1), .ref (G.2.2 3), .ref (G.2.2 5), .ref (G.2.2 (6 + 2 * 0)), .ref (G.2.2 (6 + 2 * 1)), .ref (G.2.2 14), .ref (G.2.2 15), .ref (G.2.2 31), .ref (G.2.2 36), .ref (G.2.2 38), .int (iI v), .int (iI (S.1 57 0)), .int (iI (S.1 58 0)), .int (iI (S.1 59 0))])) = wC G (us S.1 56 v, S.2) := rfl
theorem pC_ns_keptSize (X : CallFix p m c cc nL s args TB own) (I : In (KC G) s H0 H locs S) {idx : Nat} {v : Int} (hk : Cond.fieldLink own idx "NameSeeker" "keptSize" "I" ∈ TB) (hdg : decode cc pc = .ok (.putfield idx, 3)) (kk : ∀ (H1 : Heap) (locs1 : List Loc), In (KC G) s H0 H1 locs1 (us S.1 56 v, S.2) → W p l e R s m args below meth c H1 locs1 cells slots Q (F0 m (pc + 3) ls rest)) : W p l e R s m args below meth c H locs cells slots Q (F0 m pc ls (.int (iI v) :: .ref (G.2.2 0) :: rest)) :=
  pI X I (S1 := (us S.1 56 v, S.2)) (ci := 9) (C := RX9) (T := TX9) (N := 14) _ (atC_ns) rfl inlX9 tyX9 tyX9_ok nmX9 10 (by decide) hk rfl (tyX9_ok 10 (by decide)) (Nat.le_of_ble_eq_true rfl) sC_ns_keptSize hdg kk
theorem gC_ns_tick (X : CallFix p m c cc nL s args TB own) (I : In (KC G) s H0 H locs S) {idx : Nat} {v : Int} (hv : S.1 57 0 = v) (hk : Cond.fieldLink own idx "NameSeeker" "tick" "I" ∈ TB) (hdg : decode cc pc = .ok (.getfield idx, 3)) (kk : W p l e R s m args below meth c H locs cells slots Q (F0 m (pc + 3) ls (.int (iI v) :: rest))) : W p l e R s m args below meth c H locs cells slots Q (F0 m pc ls (.ref (G.2.2 0) :: rest)) := by
  subst hv
  exact gI X I (ci := 9) (C := RX9) (T := TX9) (N := 14) _ (atC_ns) rfl inlX9 11 (by decide) hk rfl hdg kk
theorem sC_ns_tick {v : Int} : (wC G S).set 0 (G.2.2 0, .inr (9, [.ref (G.2.2 1), .ref (G.2.2 3), .ref (G.2.2 5), .ref (G.2.2 (6 + 2 * 0)), .ref (G.2.2 (6 + 2 * 1)), .ref (G.2.2 14), .ref (G.2.2 15), .ref (G.2.2 31), .ref (G.2.2 36), .ref (G.2.2 38), .int (iI (S.1 56 0)), .int (iI v), .int (iI (S.1 58 0)), .int (iI (S.1 59 0))])) = wC G (us S.1 57 v, S.2) := rfl
theorem pC_ns_tick (X : CallFix p m c cc nL s args TB own) (I : In (KC G) s H0 H locs S) {idx : Nat} {v : Int} (hk : Cond.fieldLink own idx "NameSeeker" "tick" "I" ∈ TB) (hdg : decode cc pc = .ok (.putfield idx, 3)) (kk : ∀ (H1 : Heap) (locs1 : List Loc), In (KC G) s H0 H1 locs1 (us S.1 57 v, S.2) → W p l e R s m args below meth c H1 locs1 cells slots Q (F0 m (pc + 3) ls rest)) : W p l e R s m args below meth c H locs cells slots Q (F0 m pc ls (.int (iI v) :: .ref (G.2.2 0) :: rest)) :=
  pI X I (S1 := (us S.1 57 v, S.2)) (ci := 9) (C := RX9) (T := TX9) (N := 14) _ (atC_ns) rfl inlX9 tyX9 tyX9_ok nmX9 11 (by decide) hk rfl (tyX9_ok 11 (by decide)) (Nat.le_of_ble_eq_true rfl) sC_ns_tick hdg kk
theorem gC_ns_age (X : CallFix p m c cc nL s args TB own) (I : In (KC G) s H0 H locs S) {idx : Nat} {v : Int} (hv : S.1 58 0 = v) (hk : Cond.fieldLink own idx "NameSeeker" "age" "I" ∈ TB) (hdg : decode cc pc = .ok (.getfield idx, 3)) (kk : W p l e R s m args below meth c H locs cells slots Q (F0 m (pc + 3) ls (.int (iI v) :: rest))) : W p l e R s m args below meth c H locs cells slots Q (F0 m pc ls (.ref (G.2.2 0) :: rest)) := by
  subst hv
  exact gI X I (ci := 9) (C := RX9) (T := TX9) (N := 14) _ (atC_ns) rfl inlX9 12 (by decide) hk rfl hdg kk
theorem sC_ns_age {v : Int} : (wC G S).set 0 (G.2.2 0, .inr (9, [.ref (G.2.2 1), .ref (G.2.2 3), .ref (G.2.2 5), .ref (G.2.2 (6 + 2 * 0)), .ref (G.2.2 (6 + 2 * 1)), .ref (G.2.2 14), .ref (G.2.2 15), .ref (G.2.2 31), .ref (G.2.2 36), .ref (G.2.2 38), .int (iI (S.1 56 0)), .int (iI (S.1 57 0)), .int (iI v), .int (iI (S.1 59 0))])) = wC G (us S.1 58 v, S.2) := rfl
theorem pC_ns_age (X : CallFix p m c cc nL s args TB own) (I : In (KC G) s H0 H locs S) {idx : Nat} {v : Int} (hk : Cond.fieldLink own idx "NameSeeker" "age" "I" ∈ TB) (hdg : decode cc pc = .ok (.putfield idx, 3)) (kk : ∀ (H1 : Heap) (locs1 : List Loc), In (KC G) s H0 H1 locs1 (us S.1 58 v, S.2) → W p l e R s m args below meth c H1 locs1 cells slots Q (F0 m (pc + 3) ls rest)) : W p l e R s m args below meth c H locs cells slots Q (F0 m pc ls (.int (iI v) :: .ref (G.2.2 0) :: rest)) :=
  pI X I (S1 := (us S.1 58 v, S.2)) (ci := 9) (C := RX9) (T := TX9) (N := 14) _ (atC_ns) rfl inlX9 tyX9 tyX9_ok nmX9 12 (by decide) hk rfl (tyX9_ok 12 (by decide)) (Nat.le_of_ble_eq_true rfl) sC_ns_age hdg kk
theorem gC_ns_seed (X : CallFix p m c cc nL s args TB own) (I : In (KC G) s H0 H locs S) {idx : Nat} {v : Int} (hv : S.1 59 0 = v) (hk : Cond.fieldLink own idx "NameSeeker" "seed" "I" ∈ TB) (hdg : decode cc pc = .ok (.getfield idx, 3)) (kk : W p l e R s m args below meth c H locs cells slots Q (F0 m (pc + 3) ls (.int (iI v) :: rest))) : W p l e R s m args below meth c H locs cells slots Q (F0 m pc ls (.ref (G.2.2 0) :: rest)) := by
  subst hv
  exact gI X I (ci := 9) (C := RX9) (T := TX9) (N := 14) _ (atC_ns) rfl inlX9 13 (by decide) hk rfl hdg kk
theorem sC_ns_seed {v : Int} : (wC G S).set 0 (G.2.2 0, .inr (9, [.ref (G.2.2 1), .ref (G.2.2 3), .ref (G.2.2 5), .ref (G.2.2 (6 + 2 * 0)), .ref (G.2.2 (6 + 2 * 1)), .ref (G.2.2 14), .ref (G.2.2 15), .ref (G.2.2 31), .ref (G.2.2 36), .ref (G.2.2 38), .int (iI (S.1 56 0)), .int (iI (S.1 57 0)), .int (iI (S.1 58 0)), .int (iI v)])) = wC G (us S.1 59 v, S.2) := rfl
theorem pC_ns_seed (X : CallFix p m c cc nL s args TB own) (I : In (KC G) s H0 H locs S) {idx : Nat} {v : Int} (hk : Cond.fieldLink own idx "NameSeeker" "seed" "I" ∈ TB) (hdg : decode cc pc = .ok (.putfield idx, 3)) (kk : ∀ (H1 : Heap) (locs1 : List Loc), In (KC G) s H0 H1 locs1 (us S.1 59 v, S.2) → W p l e R s m args below meth c H1 locs1 cells slots Q (F0 m (pc + 3) ls rest)) : W p l e R s m args below meth c H locs cells slots Q (F0 m pc ls (.int (iI v) :: .ref (G.2.2 0) :: rest)) :=
  pI X I (S1 := (us S.1 59 v, S.2)) (ci := 9) (C := RX9) (T := TX9) (N := 14) _ (atC_ns) rfl inlX9 tyX9 tyX9_ok nmX9 13 (by decide) hk rfl (tyX9_ok 13 (by decide)) (Nat.le_of_ble_eq_true rfl) sC_ns_seed hdg kk
theorem atC_text : (wC G S)[1]? = some (G.2.2 1, .inr (7, [.ref (G.2.2 2), .int (iI (S.1 50 0))])) := rfl
theorem gC_text_letters (X : CallFix p m c cc nL s args TB own) (I : In (KC G) s H0 H locs S) {idx : Nat} (hk : Cond.fieldLink own idx "NameSeeker$Text" "letters" "[C" ∈ TB) (hdg : decode cc pc = .ok (.getfield idx, 3)) (kk : W p l e R s m args below meth c H locs cells slots Q (F0 m (pc + 3) ls (.ref (G.2.2 2) :: rest))) : W p l e R s m args below meth c H locs cells slots Q (F0 m pc ls (.ref (G.2.2 1) :: rest)) := gI X I (ci := 7) (C := RX7) (T := TX7) (N := 2) _ (atC_text) rfl inlX7 0 (by decide) hk rfl hdg kk
theorem gC_text_size (X : CallFix p m c cc nL s args TB own) (I : In (KC G) s H0 H locs S) {idx : Nat} {v : Int} (hv : S.1 50 0 = v) (hk : Cond.fieldLink own idx "NameSeeker$Text" "size" "I" ∈ TB) (hdg : decode cc pc = .ok (.getfield idx, 3)) (kk : W p l e R s m args below meth c H locs cells slots Q (F0 m (pc + 3) ls (.int (iI v) :: rest))) : W p l e R s m args below meth c H locs cells slots Q (F0 m pc ls (.ref (G.2.2 1) :: rest)) := by
  subst hv
  exact gI X I (ci := 7) (C := RX7) (T := TX7) (N := 2) _ (atC_text) rfl inlX7 1 (by decide) hk rfl hdg kk
theorem sC_text_size {v : Int} : (wC G S).set 1 (G.2.2 1, .inr (7, [.ref (G.2.2 2), .int (iI v)])) = wC G (us S.1 50 v, S.2) := rfl
theorem pC_text_size (X : CallFix p m c cc nL s args TB own) (I : In (KC G) s H0 H locs S) {idx : Nat} {v : Int} (hk : Cond.fieldLink own idx "NameSeeker$Text" "size" "I" ∈ TB) (hdg : decode cc pc = .ok (.putfield idx, 3)) (kk : ∀ (H1 : Heap) (locs1 : List Loc), In (KC G) s H0 H1 locs1 (us S.1 50 v, S.2) → W p l e R s m args below meth c H1 locs1 cells slots Q (F0 m (pc + 3) ls rest)) : W p l e R s m args below meth c H locs cells slots Q (F0 m pc ls (.int (iI v) :: .ref (G.2.2 1) :: rest)) :=
  pI X I (S1 := (us S.1 50 v, S.2)) (ci := 7) (C := RX7) (T := TX7) (N := 2) _ (atC_text) rfl inlX7 tyX7 tyX7_ok nmX7 1 (by decide) hk rfl (tyX7_ok 1 (by decide)) (Nat.le_of_ble_eq_true rfl) sC_text_size hdg kk
theorem atC_lot : (wC G S)[3]? = some (G.2.2 3, .inr (3, [.ref (G.2.2 4), .int (iI (S.1 51 0)), .int (iI (S.1 52 0))])) := rfl
theorem gC_lot_names (X : CallFix p m c cc nL s args TB own) (I : In (KC G) s H0 H locs S) {idx : Nat} (hk : Cond.fieldLink own idx "NameSeeker$Lot" "names" "[LNameSeeker$Name;" ∈ TB) (hdg : decode cc pc = .ok (.getfield idx, 3)) (kk : W p l e R s m args below meth c H locs cells slots Q (F0 m (pc + 3) ls (.ref (G.2.2 4) :: rest))) : W p l e R s m args below meth c H locs cells slots Q (F0 m pc ls (.ref (G.2.2 3) :: rest)) := gI X I (ci := 3) (C := RX3) (T := TX3) (N := 3) _ (atC_lot) rfl inlX3 0 (by decide) hk rfl hdg kk
theorem gC_lot_size (X : CallFix p m c cc nL s args TB own) (I : In (KC G) s H0 H locs S) {idx : Nat} {v : Int} (hv : S.1 51 0 = v) (hk : Cond.fieldLink own idx "NameSeeker$Lot" "size" "I" ∈ TB) (hdg : decode cc pc = .ok (.getfield idx, 3)) (kk : W p l e R s m args below meth c H locs cells slots Q (F0 m (pc + 3) ls (.int (iI v) :: rest))) : W p l e R s m args below meth c H locs cells slots Q (F0 m pc ls (.ref (G.2.2 3) :: rest)) := by
  subst hv
  exact gI X I (ci := 3) (C := RX3) (T := TX3) (N := 3) _ (atC_lot) rfl inlX3 1 (by decide) hk rfl hdg kk
theorem sC_lot_size {v : Int} : (wC G S).set 3 (G.2.2 3, .inr (3, [.ref (G.2.2 4), .int (iI v), .int (iI (S.1 52 0))])) = wC G (us S.1 51 v, S.2) := rfl
theorem pC_lot_size (X : CallFix p m c cc nL s args TB own) (I : In (KC G) s H0 H locs S) {idx : Nat} {v : Int} (hk : Cond.fieldLink own idx "NameSeeker$Lot" "size" "I" ∈ TB) (hdg : decode cc pc = .ok (.putfield idx, 3)) (kk : ∀ (H1 : Heap) (locs1 : List Loc), In (KC G) s H0 H1 locs1 (us S.1 51 v, S.2) → W p l e R s m args below meth c H1 locs1 cells slots Q (F0 m (pc + 3) ls rest)) : W p l e R s m args below meth c H locs cells slots Q (F0 m pc ls (.int (iI v) :: .ref (G.2.2 3) :: rest)) :=
  pI X I (S1 := (us S.1 51 v, S.2)) (ci := 3) (C := RX3) (T := TX3) (N := 3) _ (atC_lot) rfl inlX3 tyX3 tyX3_ok nmX3 1 (by decide) hk rfl (tyX3_ok 1 (by decide)) (Nat.le_of_ble_eq_true rfl) sC_lot_size hdg kk
theorem gC_lot_laid (X : CallFix p m c cc nL s args TB own) (I : In (KC G) s H0 H locs S) {idx : Nat} {v : Int} (hv : S.1 52 0 = v) (hk : Cond.fieldLink own idx "NameSeeker$Lot" "laid" "I" ∈ TB) (hdg : decode cc pc = .ok (.getfield idx, 3)) (kk : W p l e R s m args below meth c H locs cells slots Q (F0 m (pc + 3) ls (.int (iI v) :: rest))) : W p l e R s m args below meth c H locs cells slots Q (F0 m pc ls (.ref (G.2.2 3) :: rest)) := by
  subst hv
  exact gI X I (ci := 3) (C := RX3) (T := TX3) (N := 3) _ (atC_lot) rfl inlX3 2 (by decide) hk rfl hdg kk
theorem sC_lot_laid {v : Int} : (wC G S).set 3 (G.2.2 3, .inr (3, [.ref (G.2.2 4), .int (iI (S.1 51 0)), .int (iI v)])) = wC G (us S.1 52 v, S.2) := rfl
theorem pC_lot_laid (X : CallFix p m c cc nL s args TB own) (I : In (KC G) s H0 H locs S) {idx : Nat} {v : Int} (hk : Cond.fieldLink own idx "NameSeeker$Lot" "laid" "I" ∈ TB) (hdg : decode cc pc = .ok (.putfield idx, 3)) (kk : ∀ (H1 : Heap) (locs1 : List Loc), In (KC G) s H0 H1 locs1 (us S.1 52 v, S.2) → W p l e R s m args below meth c H1 locs1 cells slots Q (F0 m (pc + 3) ls rest)) : W p l e R s m args below meth c H locs cells slots Q (F0 m pc ls (.int (iI v) :: .ref (G.2.2 3) :: rest)) :=
  pI X I (S1 := (us S.1 52 v, S.2)) (ci := 3) (C := RX3) (T := TX3) (N := 3) _ (atC_lot) rfl inlX3 tyX3 tyX3_ok nmX3 2 (by decide) hk rfl (tyX3_ok 2 (by decide)) (Nat.le_of_ble_eq_true rfl) sC_lot_laid hdg kk
theorem atC_scales : (wC G S)[5]? = some (G.2.2 5, .inr (6, [.int (iI (S.1 53 0)), .int (iI (S.1 54 0)), .int (iI (S.1 55 0))])) := rfl
theorem gC_scales_beginning (X : CallFix p m c cc nL s args TB own) (I : In (KC G) s H0 H locs S) {idx : Nat} {v : Int} (hv : S.1 53 0 = v) (hk : Cond.fieldLink own idx "NameSeeker$Scales" "beginning" "I" ∈ TB) (hdg : decode cc pc = .ok (.getfield idx, 3)) (kk : W p l e R s m args below meth c H locs cells slots Q (F0 m (pc + 3) ls (.int (iI v) :: rest))) : W p l e R s m args below meth c H locs cells slots Q (F0 m pc ls (.ref (G.2.2 5) :: rest)) := by
  subst hv
  exact gI X I (ci := 6) (C := RX6) (T := TX6) (N := 3) _ (atC_scales) rfl inlX6 0 (by decide) hk rfl hdg kk
theorem sC_scales_beginning {v : Int} : (wC G S).set 5 (G.2.2 5, .inr (6, [.int (iI v), .int (iI (S.1 54 0)), .int (iI (S.1 55 0))])) = wC G (us S.1 53 v, S.2) := rfl
theorem pC_scales_beginning (X : CallFix p m c cc nL s args TB own) (I : In (KC G) s H0 H locs S) {idx : Nat} {v : Int} (hk : Cond.fieldLink own idx "NameSeeker$Scales" "beginning" "I" ∈ TB) (hdg : decode cc pc = .ok (.putfield idx, 3)) (kk : ∀ (H1 : Heap) (locs1 : List Loc), In (KC G) s H0 H1 locs1 (us S.1 53 v, S.2) → W p l e R s m args below meth c H1 locs1 cells slots Q (F0 m (pc + 3) ls rest)) : W p l e R s m args below meth c H locs cells slots Q (F0 m pc ls (.int (iI v) :: .ref (G.2.2 5) :: rest)) :=
  pI X I (S1 := (us S.1 53 v, S.2)) (ci := 6) (C := RX6) (T := TX6) (N := 3) _ (atC_scales) rfl inlX6 tyX6 tyX6_ok nmX6 0 (by decide) hk rfl (tyX6_ok 0 (by decide)) (Nat.le_of_ble_eq_true rfl) sC_scales_beginning hdg kk
theorem gC_scales_row (X : CallFix p m c cc nL s args TB own) (I : In (KC G) s H0 H locs S) {idx : Nat} {v : Int} (hv : S.1 54 0 = v) (hk : Cond.fieldLink own idx "NameSeeker$Scales" "row" "I" ∈ TB) (hdg : decode cc pc = .ok (.getfield idx, 3)) (kk : W p l e R s m args below meth c H locs cells slots Q (F0 m (pc + 3) ls (.int (iI v) :: rest))) : W p l e R s m args below meth c H locs cells slots Q (F0 m pc ls (.ref (G.2.2 5) :: rest)) := by
  subst hv
  exact gI X I (ci := 6) (C := RX6) (T := TX6) (N := 3) _ (atC_scales) rfl inlX6 1 (by decide) hk rfl hdg kk
theorem sC_scales_row {v : Int} : (wC G S).set 5 (G.2.2 5, .inr (6, [.int (iI (S.1 53 0)), .int (iI v), .int (iI (S.1 55 0))])) = wC G (us S.1 54 v, S.2) := rfl
theorem pC_scales_row (X : CallFix p m c cc nL s args TB own) (I : In (KC G) s H0 H locs S) {idx : Nat} {v : Int} (hk : Cond.fieldLink own idx "NameSeeker$Scales" "row" "I" ∈ TB) (hdg : decode cc pc = .ok (.putfield idx, 3)) (kk : ∀ (H1 : Heap) (locs1 : List Loc), In (KC G) s H0 H1 locs1 (us S.1 54 v, S.2) → W p l e R s m args below meth c H1 locs1 cells slots Q (F0 m (pc + 3) ls rest)) : W p l e R s m args below meth c H locs cells slots Q (F0 m pc ls (.int (iI v) :: .ref (G.2.2 5) :: rest)) :=
  pI X I (S1 := (us S.1 54 v, S.2)) (ci := 6) (C := RX6) (T := TX6) (N := 3) _ (atC_scales) rfl inlX6 tyX6 tyX6_ok nmX6 1 (by decide) hk rfl (tyX6_ok 1 (by decide)) (Nat.le_of_ble_eq_true rfl) sC_scales_row hdg kk
theorem gC_scales_gap (X : CallFix p m c cc nL s args TB own) (I : In (KC G) s H0 H locs S) {idx : Nat} {v : Int} (hv : S.1 55 0 = v) (hk : Cond.fieldLink own idx "NameSeeker$Scales" "gap" "I" ∈ TB) (hdg : decode cc pc = .ok (.getfield idx, 3)) (kk : W p l e R s m args below meth c H locs cells slots Q (F0 m (pc + 3) ls (.int (iI v) :: rest))) : W p l e R s m args below meth c H locs cells slots Q (F0 m pc ls (.ref (G.2.2 5) :: rest)) := by
  subst hv
  exact gI X I (ci := 6) (C := RX6) (T := TX6) (N := 3) _ (atC_scales) rfl inlX6 2 (by decide) hk rfl hdg kk
theorem sC_scales_gap {v : Int} : (wC G S).set 5 (G.2.2 5, .inr (6, [.int (iI (S.1 53 0)), .int (iI (S.1 54 0)), .int (iI v)])) = wC G (us S.1 55 v, S.2) := rfl
theorem pC_scales_gap (X : CallFix p m c cc nL s args TB own) (I : In (KC G) s H0 H locs S) {idx : Nat} {v : Int} (hk : Cond.fieldLink own idx "NameSeeker$Scales" "gap" "I" ∈ TB) (hdg : decode cc pc = .ok (.putfield idx, 3)) (kk : ∀ (H1 : Heap) (locs1 : List Loc), In (KC G) s H0 H1 locs1 (us S.1 55 v, S.2) → W p l e R s m args below meth c H1 locs1 cells slots Q (F0 m (pc + 3) ls rest)) : W p l e R s m args below meth c H locs cells slots Q (F0 m pc ls (.int (iI v) :: .ref (G.2.2 5) :: rest)) :=
  pI X I (S1 := (us S.1 55 v, S.2)) (ci := 6) (C := RX6) (T := TX6) (N := 3) _ (atC_scales) rfl inlX6 tyX6 tyX6_ok nmX6 2 (by decide) hk rfl (tyX6_ok 2 (by decide)) (Nat.le_of_ble_eq_true rfl) sC_scales_gap hdg kk
theorem atC_word {w : Nat} (hw : w < 4) : (wC G S)[(6 + 2 * w)]? = some (G.2.2 (6 + 2 * w), .inr (8, [.ref (G.2.2 (7 + 2 * w)), .int (iI (S.1 8 (w : Int)))])) := by
  match w, hw with
  | 0, _ => rfl
  | 1, _ => rfl
  | 2, _ => rfl
  | 3, _ => rfl
theorem gC_word_letters (X : CallFix p m c cc nL s args TB own) (I : In (KC G) s H0 H locs S) {w : Nat} (hw : w < 4) {idx : Nat} (hk : Cond.fieldLink own idx "NameSeeker$Word" "letters" "[C" ∈ TB) (hdg : decode cc pc = .ok (.getfield idx, 3)) (kk : W p l e R s m args below meth c H locs cells slots Q (F0 m (pc + 3) ls (.ref (G.2.2 (7 + 2 * w)) :: rest))) : W p l e R s m args below meth c H locs cells slots Q (F0 m pc ls (.ref (G.2.2 (6 + 2 * w)) :: rest)) := gI X I (ci := 8) (C := RX8) (T := TX8) (N := 2) _ (atC_word hw) rfl inlX8 0 (by decide) hk rfl hdg kk
theorem gC_word_size (X : CallFix p m c cc nL s args TB own) (I : In (KC G) s H0 H locs S) {w : Nat} (hw : w < 4) {idx : Nat} {v : Int} (hv : S.1 8 (w : Int) = v) (hk : Cond.fieldLink own idx "NameSeeker$Word" "size" "I" ∈ TB) (hdg : decode cc pc = .ok (.getfield idx, 3)) (kk : W p l e R s m args below meth c H locs cells slots Q (F0 m (pc + 3) ls (.int (iI v) :: rest))) : W p l e R s m args below meth c H locs cells slots Q (F0 m pc ls (.ref (G.2.2 (6 + 2 * w)) :: rest)) := by
  subst hv
  exact gI X I (ci := 8) (C := RX8) (T := TX8) (N := 2) _ (atC_word hw) rfl inlX8 1 (by decide) hk rfl hdg kk
theorem sC_word_size {v : Int} {w : Nat} (hw : w < 4) : (wC G S).set (6 + 2 * w) (G.2.2 (6 + 2 * w), .inr (8, [.ref (G.2.2 (7 + 2 * w)), .int (iI v)])) = wC G (ua S.1 8 (w : Int) v, S.2) := by
  match w, hw with
  | 0, _ => rfl
  | 1, _ => rfl
  | 2, _ => rfl
  | 3, _ => rfl
theorem pC_word_size (X : CallFix p m c cc nL s args TB own) (I : In (KC G) s H0 H locs S) {w : Nat} (hw : w < 4) {idx : Nat} {v : Int} (hk : Cond.fieldLink own idx "NameSeeker$Word" "size" "I" ∈ TB) (hdg : decode cc pc = .ok (.putfield idx, 3)) (kk : ∀ (H1 : Heap) (locs1 : List Loc), In (KC G) s H0 H1 locs1 (ua S.1 8 (w : Int) v, S.2) → W p l e R s m args below meth c H1 locs1 cells slots Q (F0 m (pc + 3) ls rest)) : W p l e R s m args below meth c H locs cells slots Q (F0 m pc ls (.int (iI v) :: .ref (G.2.2 (6 + 2 * w)) :: rest)) :=
  pI X I (S1 := (ua S.1 8 (w : Int) v, S.2)) (ci := 8) (C := RX8) (T := TX8) (N := 2) _ (atC_word hw) rfl inlX8 tyX8 tyX8_ok nmX8 1 (by decide) hk rfl (tyX8_ok 1 (by decide)) (Nat.le_of_ble_eq_true rfl) (sC_word_size hw) hdg kk
theorem atC_laying : (wC G S)[15]? = some (G.2.2 15, .inr (2, [.ref (G.2.2 16), .ref (G.2.2 23), .ref (G.2.2 30), .int (iI (S.1 60 0))])) := rfl
theorem gC_laying_tails (X : CallFix p m c cc nL s args TB own) (I : In (KC G) s H0 H locs S) {idx : Nat} (hk : Cond.fieldLink own idx "NameSeeker$Laying" "tails" "[[I" ∈ TB) (hdg : decode cc pc = .ok (.getfield idx, 3)) (kk : W p l e R s m args below meth c H locs cells slots Q (F0 m (pc + 3) ls (.ref (G.2.2 16) :: rest))) : W p l e R s m args below meth c H locs cells slots Q (F0 m pc ls (.ref (G.2.2 15) :: rest)) := gI X I (ci := 2) (C := RX2) (T := TX2) (N := 4) _ (atC_laying) rfl inlX2 0 (by decide) hk rfl hdg kk
theorem gC_laying_nexts (X : CallFix p m c cc nL s args TB own) (I : In (KC G) s H0 H locs S) {idx : Nat} (hk : Cond.fieldLink own idx "NameSeeker$Laying" "nexts" "[[I" ∈ TB) (hdg : decode cc pc = .ok (.getfield idx, 3)) (kk : W p l e R s m args below meth c H locs cells slots Q (F0 m (pc + 3) ls (.ref (G.2.2 23) :: rest))) : W p l e R s m args below meth c H locs cells slots Q (F0 m pc ls (.ref (G.2.2 15) :: rest)) := gI X I (ci := 2) (C := RX2) (T := TX2) (N := 4) _ (atC_laying) rfl inlX2 1 (by decide) hk rfl hdg kk
theorem gC_laying_counts (X : CallFix p m c cc nL s args TB own) (I : In (KC G) s H0 H locs S) {idx : Nat} (hk : Cond.fieldLink own idx "NameSeeker$Laying" "counts" "[I" ∈ TB) (hdg : decode cc pc = .ok (.getfield idx, 3)) (kk : W p l e R s m args below meth c H locs cells slots Q (F0 m (pc + 3) ls (.ref (G.2.2 30) :: rest))) : W p l e R s m args below meth c H locs cells slots Q (F0 m pc ls (.ref (G.2.2 15) :: rest)) := gI X I (ci := 2) (C := RX2) (T := TX2) (N := 4) _ (atC_laying) rfl inlX2 2 (by decide) hk rfl hdg kk
theorem gC_laying_bestFirst (X : CallFix p m c cc nL s args TB own) (I : In (KC G) s H0 H locs S) {idx : Nat} {v : Int} (hv : S.1 60 0 = v) (hk : Cond.fieldLink own idx "NameSeeker$Laying" "bestFirst" "I" ∈ TB) (hdg : decode cc pc = .ok (.getfield idx, 3)) (kk : W p l e R s m args below meth c H locs cells slots Q (F0 m (pc + 3) ls (.int (iI v) :: rest))) : W p l e R s m args below meth c H locs cells slots Q (F0 m pc ls (.ref (G.2.2 15) :: rest)) := by
  subst hv
  exact gI X I (ci := 2) (C := RX2) (T := TX2) (N := 4) _ (atC_laying) rfl inlX2 3 (by decide) hk rfl hdg kk
theorem sC_laying_bestFirst {v : Int} : (wC G S).set 15 (G.2.2 15, .inr (2, [.ref (G.2.2 16), .ref (G.2.2 23), .ref (G.2.2 30), .int (iI v)])) = wC G (us S.1 60 v, S.2) := rfl
theorem pC_laying_bestFirst (X : CallFix p m c cc nL s args TB own) (I : In (KC G) s H0 H locs S) {idx : Nat} {v : Int} (hk : Cond.fieldLink own idx "NameSeeker$Laying" "bestFirst" "I" ∈ TB) (hdg : decode cc pc = .ok (.putfield idx, 3)) (kk : ∀ (H1 : Heap) (locs1 : List Loc), In (KC G) s H0 H1 locs1 (us S.1 60 v, S.2) → W p l e R s m args below meth c H1 locs1 cells slots Q (F0 m (pc + 3) ls rest)) : W p l e R s m args below meth c H locs cells slots Q (F0 m pc ls (.int (iI v) :: .ref (G.2.2 15) :: rest)) :=
  pI X I (S1 := (us S.1 60 v, S.2)) (ci := 2) (C := RX2) (T := TX2) (N := 4) _ (atC_laying) rfl inlX2 tyX2 tyX2_ok nmX2 3 (by decide) hk rfl (tyX2_ok 3 (by decide)) (Nat.le_of_ble_eq_true rfl) sC_laying_bestFirst hdg kk
theorem atC_known : (wC G S)[31]? = some (G.2.2 31, .inr (1, [.ref (G.2.2 32), .ref (G.2.2 33), .ref (G.2.2 34), .ref (G.2.2 35), .int (iI (S.1 61 0)), .int (iI (S.1 62 0))])) := rfl
theorem gC_known_ids (X : CallFix p m c cc nL s args TB own) (I : In (KC G) s H0 H locs S) {idx : Nat} (hk : Cond.fieldLink own idx "NameSeeker$Known" "ids" "[I" ∈ TB) (hdg : decode cc pc = .ok (.getfield idx, 3)) (kk : W p l e R s m args below meth c H locs cells slots Q (F0 m (pc + 3) ls (.ref (G.2.2 32) :: rest))) : W p l e R s m args below meth c H locs cells slots Q (F0 m pc ls (.ref (G.2.2 31) :: rest)) := gI X I (ci := 1) (C := RX1) (T := TX1) (N := 6) _ (atC_known) rfl inlX1 0 (by decide) hk rfl hdg kk
theorem gC_known_codes (X : CallFix p m c cc nL s args TB own) (I : In (KC G) s H0 H locs S) {idx : Nat} (hk : Cond.fieldLink own idx "NameSeeker$Known" "codes" "[J" ∈ TB) (hdg : decode cc pc = .ok (.getfield idx, 3)) (kk : W p l e R s m args below meth c H locs cells slots Q (F0 m (pc + 3) ls (.ref (G.2.2 33) :: rest))) : W p l e R s m args below meth c H locs cells slots Q (F0 m pc ls (.ref (G.2.2 31) :: rest)) := gI X I (ci := 1) (C := RX1) (T := TX1) (N := 6) _ (atC_known) rfl inlX1 1 (by decide) hk rfl hdg kk
theorem gC_known_ages (X : CallFix p m c cc nL s args TB own) (I : In (KC G) s H0 H locs S) {idx : Nat} (hk : Cond.fieldLink own idx "NameSeeker$Known" "ages" "[I" ∈ TB) (hdg : decode cc pc = .ok (.getfield idx, 3)) (kk : W p l e R s m args below meth c H locs cells slots Q (F0 m (pc + 3) ls (.ref (G.2.2 34) :: rest))) : W p l e R s m args below meth c H locs cells slots Q (F0 m pc ls (.ref (G.2.2 31) :: rest)) := gI X I (ci := 1) (C := RX1) (T := TX1) (N := 6) _ (atC_known) rfl inlX1 2 (by decide) hk rfl hdg kk
theorem gC_known_scores (X : CallFix p m c cc nL s args TB own) (I : In (KC G) s H0 H locs S) {idx : Nat} (hk : Cond.fieldLink own idx "NameSeeker$Known" "scores" "[I" ∈ TB) (hdg : decode cc pc = .ok (.getfield idx, 3)) (kk : W p l e R s m args below meth c H locs cells slots Q (F0 m (pc + 3) ls (.ref (G.2.2 35) :: rest))) : W p l e R s m args below meth c H locs cells slots Q (F0 m pc ls (.ref (G.2.2 31) :: rest)) := gI X I (ci := 1) (C := RX1) (T := TX1) (N := 6) _ (atC_known) rfl inlX1 3 (by decide) hk rfl hdg kk
theorem gC_known_hits (X : CallFix p m c cc nL s args TB own) (I : In (KC G) s H0 H locs S) {idx : Nat} {v : Int} (hv : S.1 61 0 = v) (hk : Cond.fieldLink own idx "NameSeeker$Known" "hits" "I" ∈ TB) (hdg : decode cc pc = .ok (.getfield idx, 3)) (kk : W p l e R s m args below meth c H locs cells slots Q (F0 m (pc + 3) ls (.int (iI v) :: rest))) : W p l e R s m args below meth c H locs cells slots Q (F0 m pc ls (.ref (G.2.2 31) :: rest)) := by
  subst hv
  exact gI X I (ci := 1) (C := RX1) (T := TX1) (N := 6) _ (atC_known) rfl inlX1 4 (by decide) hk rfl hdg kk
theorem sC_known_hits {v : Int} : (wC G S).set 31 (G.2.2 31, .inr (1, [.ref (G.2.2 32), .ref (G.2.2 33), .ref (G.2.2 34), .ref (G.2.2 35), .int (iI v), .int (iI (S.1 62 0))])) = wC G (us S.1 61 v, S.2) := rfl
theorem pC_known_hits (X : CallFix p m c cc nL s args TB own) (I : In (KC G) s H0 H locs S) {idx : Nat} {v : Int} (hk : Cond.fieldLink own idx "NameSeeker$Known" "hits" "I" ∈ TB) (hdg : decode cc pc = .ok (.putfield idx, 3)) (kk : ∀ (H1 : Heap) (locs1 : List Loc), In (KC G) s H0 H1 locs1 (us S.1 61 v, S.2) → W p l e R s m args below meth c H1 locs1 cells slots Q (F0 m (pc + 3) ls rest)) : W p l e R s m args below meth c H locs cells slots Q (F0 m pc ls (.int (iI v) :: .ref (G.2.2 31) :: rest)) :=
  pI X I (S1 := (us S.1 61 v, S.2)) (ci := 1) (C := RX1) (T := TX1) (N := 6) _ (atC_known) rfl inlX1 tyX1 tyX1_ok nmX1 4 (by decide) hk rfl (tyX1_ok 4 (by decide)) (Nat.le_of_ble_eq_true rfl) sC_known_hits hdg kk
theorem gC_known_misses (X : CallFix p m c cc nL s args TB own) (I : In (KC G) s H0 H locs S) {idx : Nat} {v : Int} (hv : S.1 62 0 = v) (hk : Cond.fieldLink own idx "NameSeeker$Known" "misses" "I" ∈ TB) (hdg : decode cc pc = .ok (.getfield idx, 3)) (kk : W p l e R s m args below meth c H locs cells slots Q (F0 m (pc + 3) ls (.int (iI v) :: rest))) : W p l e R s m args below meth c H locs cells slots Q (F0 m pc ls (.ref (G.2.2 31) :: rest)) := by
  subst hv
  exact gI X I (ci := 1) (C := RX1) (T := TX1) (N := 6) _ (atC_known) rfl inlX1 5 (by decide) hk rfl hdg kk
theorem sC_known_misses {v : Int} : (wC G S).set 31 (G.2.2 31, .inr (1, [.ref (G.2.2 32), .ref (G.2.2 33), .ref (G.2.2 34), .ref (G.2.2 35), .int (iI (S.1 61 0)), .int (iI v)])) = wC G (us S.1 62 v, S.2) := rfl
theorem pC_known_misses (X : CallFix p m c cc nL s args TB own) (I : In (KC G) s H0 H locs S) {idx : Nat} {v : Int} (hk : Cond.fieldLink own idx "NameSeeker$Known" "misses" "I" ∈ TB) (hdg : decode cc pc = .ok (.putfield idx, 3)) (kk : ∀ (H1 : Heap) (locs1 : List Loc), In (KC G) s H0 H1 locs1 (us S.1 62 v, S.2) → W p l e R s m args below meth c H1 locs1 cells slots Q (F0 m (pc + 3) ls rest)) : W p l e R s m args below meth c H locs cells slots Q (F0 m pc ls (.int (iI v) :: .ref (G.2.2 31) :: rest)) :=
  pI X I (S1 := (us S.1 62 v, S.2)) (ci := 1) (C := RX1) (T := TX1) (N := 6) _ (atC_known) rfl inlX1 tyX1 tyX1_ok nmX1 5 (by decide) hk rfl (tyX1_ok 5 (by decide)) (Nat.le_of_ble_eq_true rfl) sC_known_misses hdg kk
theorem atC_asked : (wC G S)[36]? = some (G.2.2 36, .inr (0, [.ref (G.2.2 37), .int (iI (S.1 63 0))])) := rfl
theorem gC_asked_codes (X : CallFix p m c cc nL s args TB own) (I : In (KC G) s H0 H locs S) {idx : Nat} (hk : Cond.fieldLink own idx "NameSeeker$Asked" "codes" "[J" ∈ TB) (hdg : decode cc pc = .ok (.getfield idx, 3)) (kk : W p l e R s m args below meth c H locs cells slots Q (F0 m (pc + 3) ls (.ref (G.2.2 37) :: rest))) : W p l e R s m args below meth c H locs cells slots Q (F0 m pc ls (.ref (G.2.2 36) :: rest)) := gI X I (ci := 0) (C := RX0) (T := TX0) (N := 2) _ (atC_asked) rfl inlX0 0 (by decide) hk rfl hdg kk
theorem gC_asked_size (X : CallFix p m c cc nL s args TB own) (I : In (KC G) s H0 H locs S) {idx : Nat} {v : Int} (hv : S.1 63 0 = v) (hk : Cond.fieldLink own idx "NameSeeker$Asked" "size" "I" ∈ TB) (hdg : decode cc pc = .ok (.getfield idx, 3)) (kk : W p l e R s m args below meth c H locs cells slots Q (F0 m (pc + 3) ls (.int (iI v) :: rest))) : W p l e R s m args below meth c H locs cells slots Q (F0 m pc ls (.ref (G.2.2 36) :: rest)) := by
  subst hv
  exact gI X I (ci := 0) (C := RX0) (T := TX0) (N := 2) _ (atC_asked) rfl inlX0 1 (by decide) hk rfl hdg kk
theorem sC_asked_size {v : Int} : (wC G S).set 36 (G.2.2 36, .inr (0, [.ref (G.2.2 37), .int (iI v)])) = wC G (us S.1 63 v, S.2) := rfl
theorem pC_asked_size (X : CallFix p m c cc nL s args TB own) (I : In (KC G) s H0 H locs S) {idx : Nat} {v : Int} (hk : Cond.fieldLink own idx "NameSeeker$Asked" "size" "I" ∈ TB) (hdg : decode cc pc = .ok (.putfield idx, 3)) (kk : ∀ (H1 : Heap) (locs1 : List Loc), In (KC G) s H0 H1 locs1 (us S.1 63 v, S.2) → W p l e R s m args below meth c H1 locs1 cells slots Q (F0 m (pc + 3) ls rest)) : W p l e R s m args below meth c H locs cells slots Q (F0 m pc ls (.int (iI v) :: .ref (G.2.2 36) :: rest)) :=
  pI X I (S1 := (us S.1 63 v, S.2)) (ci := 0) (C := RX0) (T := TX0) (N := 2) _ (atC_asked) rfl inlX0 tyX0 tyX0_ok nmX0 1 (by decide) hk rfl (tyX0_ok 1 (by decide)) (Nat.le_of_ble_eq_true rfl) sC_asked_size hdg kk
theorem atC_ranking : (wC G S)[38]? = some (G.2.2 38, .inr (5, [.ref (G.2.2 39), .ref (G.2.2 40), .int (iI (S.1 64 0))])) := rfl
theorem gC_ranking_scores (X : CallFix p m c cc nL s args TB own) (I : In (KC G) s H0 H locs S) {idx : Nat} (hk : Cond.fieldLink own idx "NameSeeker$Ranking" "scores" "[I" ∈ TB) (hdg : decode cc pc = .ok (.getfield idx, 3)) (kk : W p l e R s m args below meth c H locs cells slots Q (F0 m (pc + 3) ls (.ref (G.2.2 39) :: rest))) : W p l e R s m args below meth c H locs cells slots Q (F0 m pc ls (.ref (G.2.2 38) :: rest)) := gI X I (ci := 5) (C := RX5) (T := TX5) (N := 3) _ (atC_ranking) rfl inlX5 0 (by decide) hk rfl hdg kk
theorem gC_ranking_numbers (X : CallFix p m c cc nL s args TB own) (I : In (KC G) s H0 H locs S) {idx : Nat} (hk : Cond.fieldLink own idx "NameSeeker$Ranking" "numbers" "[I" ∈ TB) (hdg : decode cc pc = .ok (.getfield idx, 3)) (kk : W p l e R s m args below meth c H locs cells slots Q (F0 m (pc + 3) ls (.ref (G.2.2 40) :: rest))) : W p l e R s m args below meth c H locs cells slots Q (F0 m pc ls (.ref (G.2.2 38) :: rest)) := gI X I (ci := 5) (C := RX5) (T := TX5) (N := 3) _ (atC_ranking) rfl inlX5 1 (by decide) hk rfl hdg kk
theorem gC_ranking_size (X : CallFix p m c cc nL s args TB own) (I : In (KC G) s H0 H locs S) {idx : Nat} {v : Int} (hv : S.1 64 0 = v) (hk : Cond.fieldLink own idx "NameSeeker$Ranking" "size" "I" ∈ TB) (hdg : decode cc pc = .ok (.getfield idx, 3)) (kk : W p l e R s m args below meth c H locs cells slots Q (F0 m (pc + 3) ls (.int (iI v) :: rest))) : W p l e R s m args below meth c H locs cells slots Q (F0 m pc ls (.ref (G.2.2 38) :: rest)) := by
  subst hv
  exact gI X I (ci := 5) (C := RX5) (T := TX5) (N := 3) _ (atC_ranking) rfl inlX5 2 (by decide) hk rfl hdg kk
theorem sC_ranking_size {v : Int} : (wC G S).set 38 (G.2.2 38, .inr (5, [.ref (G.2.2 39), .ref (G.2.2 40), .int (iI v)])) = wC G (us S.1 64 v, S.2) := rfl
theorem pC_ranking_size (X : CallFix p m c cc nL s args TB own) (I : In (KC G) s H0 H locs S) {idx : Nat} {v : Int} (hk : Cond.fieldLink own idx "NameSeeker$Ranking" "size" "I" ∈ TB) (hdg : decode cc pc = .ok (.putfield idx, 3)) (kk : ∀ (H1 : Heap) (locs1 : List Loc), In (KC G) s H0 H1 locs1 (us S.1 64 v, S.2) → W p l e R s m args below meth c H1 locs1 cells slots Q (F0 m (pc + 3) ls rest)) : W p l e R s m args below meth c H locs cells slots Q (F0 m pc ls (.int (iI v) :: .ref (G.2.2 38) :: rest)) :=
  pI X I (S1 := (us S.1 64 v, S.2)) (ci := 5) (C := RX5) (T := TX5) (N := 3) _ (atC_ranking) rfl inlX5 tyX5 tyX5_ok nmX5 2 (by decide) hk rfl (tyX5_ok 2 (by decide)) (Nat.le_of_ble_eq_true rfl) sC_ranking_size hdg kk
theorem atC_name {j : Nat} (hj : j < 8) : (wC G S)[(41 + 2 * j)]? = some (G.2.2 (41 + 2 * j), .inr (4, [.ref (G.2.2 (42 + 2 * j)), .int (iI (S.1 2 (j : Int))), .int (iI (S.1 3 (j : Int))), .int (iI (S.1 4 (j : Int))), .int (iI (S.1 5 (j : Int))), .int (iI (S.1 6 (j : Int))), .int (iI (S.1 7 (j : Int)))])) := by
  match j, hj with
  | 0, _ => rfl
  | 1, _ => rfl
  | 2, _ => rfl
  | 3, _ => rfl
  | 4, _ => rfl
  | 5, _ => rfl
  | 6, _ => rfl
  | 7, _ => rfl
theorem gC_name_signs (X : CallFix p m c cc nL s args TB own) (I : In (KC G) s H0 H locs S) {j : Nat} (hj : j < 8) {idx : Nat} (hk : Cond.fieldLink own idx "NameSeeker$Name" "signs" "[C" ∈ TB) (hdg : decode cc pc = .ok (.getfield idx, 3)) (kk : W p l e R s m args below meth c H locs cells slots Q (F0 m (pc + 3) ls (.ref (G.2.2 (42 + 2 * j)) :: rest))) : W p l e R s m args below meth c H locs cells slots Q (F0 m pc ls (.ref (G.2.2 (41 + 2 * j)) :: rest)) := gI X I (ci := 4) (C := RX4) (T := TX4) (N := 7) _ (atC_name hj) rfl inlX4 0 (by decide) hk rfl hdg kk
theorem gC_name_size (X : CallFix p m c cc nL s args TB own) (I : In (KC G) s H0 H locs S) {j : Nat} (hj : j < 8) {idx : Nat} {v : Int} (hv : S.1 2 (j : Int) = v) (hk : Cond.fieldLink own idx "NameSeeker$Name" "size" "I" ∈ TB) (hdg : decode cc pc = .ok (.getfield idx, 3)) (kk : W p l e R s m args below meth c H locs cells slots Q (F0 m (pc + 3) ls (.int (iI v) :: rest))) : W p l e R s m args below meth c H locs cells slots Q (F0 m pc ls (.ref (G.2.2 (41 + 2 * j)) :: rest)) := by
  subst hv
  exact gI X I (ci := 4) (C := RX4) (T := TX4) (N := 7) _ (atC_name hj) rfl inlX4 1 (by decide) hk rfl hdg kk
theorem sC_name_size {v : Int} {j : Nat} (hj : j < 8) : (wC G S).set (41 + 2 * j) (G.2.2 (41 + 2 * j), .inr (4, [.ref (G.2.2 (42 + 2 * j)), .int (iI v), .int (iI (S.1 3 (j : Int))), .int (iI (S.1 4 (j : Int))), .int (iI (S.1 5 (j : Int))), .int (iI (S.1 6 (j : Int))), .int (iI (S.1 7 (j : Int)))])) = wC G (ua S.1 2 (j : Int) v, S.2) := by
  match j, hj with
  | 0, _ => rfl
  | 1, _ => rfl
  | 2, _ => rfl
  | 3, _ => rfl
  | 4, _ => rfl
  | 5, _ => rfl
  | 6, _ => rfl
  | 7, _ => rfl
theorem pC_name_size (X : CallFix p m c cc nL s args TB own) (I : In (KC G) s H0 H locs S) {j : Nat} (hj : j < 8) {idx : Nat} {v : Int} (hk : Cond.fieldLink own idx "NameSeeker$Name" "size" "I" ∈ TB) (hdg : decode cc pc = .ok (.putfield idx, 3)) (kk : ∀ (H1 : Heap) (locs1 : List Loc), In (KC G) s H0 H1 locs1 (ua S.1 2 (j : Int) v, S.2) → W p l e R s m args below meth c H1 locs1 cells slots Q (F0 m (pc + 3) ls rest)) : W p l e R s m args below meth c H locs cells slots Q (F0 m pc ls (.int (iI v) :: .ref (G.2.2 (41 + 2 * j)) :: rest)) :=
  pI X I (S1 := (ua S.1 2 (j : Int) v, S.2)) (ci := 4) (C := RX4) (T := TX4) (N := 7) _ (atC_name hj) rfl inlX4 tyX4 tyX4_ok nmX4 1 (by decide) hk rfl (tyX4_ok 1 (by decide)) (Nat.le_of_ble_eq_true rfl) (sC_name_size hj) hdg kk
theorem gC_name_kind (X : CallFix p m c cc nL s args TB own) (I : In (KC G) s H0 H locs S) {j : Nat} (hj : j < 8) {idx : Nat} {v : Int} (hv : S.1 3 (j : Int) = v) (hk : Cond.fieldLink own idx "NameSeeker$Name" "kind" "I" ∈ TB) (hdg : decode cc pc = .ok (.getfield idx, 3)) (kk : W p l e R s m args below meth c H locs cells slots Q (F0 m (pc + 3) ls (.int (iI v) :: rest))) : W p l e R s m args below meth c H locs cells slots Q (F0 m pc ls (.ref (G.2.2 (41 + 2 * j)) :: rest)) := by
  subst hv
  exact gI X I (ci := 4) (C := RX4) (T := TX4) (N := 7) _ (atC_name hj) rfl inlX4 2 (by decide) hk rfl hdg kk
theorem sC_name_kind {v : Int} {j : Nat} (hj : j < 8) : (wC G S).set (41 + 2 * j) (G.2.2 (41 + 2 * j), .inr (4, [.ref (G.2.2 (42 + 2 * j)), .int (iI (S.1 2 (j : Int))), .int (iI v), .int (iI (S.1 4 (j : Int))), .int (iI (S.1 5 (j : Int))), .int (iI (S.1 6 (j : Int))), .int (iI (S.1 7 (j : Int)))])) = wC G (ua S.1 3 (j : Int) v, S.2) := by
  match j, hj with
  | 0, _ => rfl
  | 1, _ => rfl
  | 2, _ => rfl
  | 3, _ => rfl
  | 4, _ => rfl
  | 5, _ => rfl
  | 6, _ => rfl
  | 7, _ => rfl
theorem pC_name_kind (X : CallFix p m c cc nL s args TB own) (I : In (KC G) s H0 H locs S) {j : Nat} (hj : j < 8) {idx : Nat} {v : Int} (hk : Cond.fieldLink own idx "NameSeeker$Name" "kind" "I" ∈ TB) (hdg : decode cc pc = .ok (.putfield idx, 3)) (kk : ∀ (H1 : Heap) (locs1 : List Loc), In (KC G) s H0 H1 locs1 (ua S.1 3 (j : Int) v, S.2) → W p l e R s m args below meth c H1 locs1 cells slots Q (F0 m (pc + 3) ls rest)) : W p l e R s m args below meth c H locs cells slots Q (F0 m pc ls (.int (iI v) :: .ref (G.2.2 (41 + 2 * j)) :: rest)) :=
  pI X I (S1 := (ua S.1 3 (j : Int) v, S.2)) (ci := 4) (C := RX4) (T := TX4) (N := 7) _ (atC_name hj) rfl inlX4 tyX4 tyX4_ok nmX4 2 (by decide) hk rfl (tyX4_ok 2 (by decide)) (Nat.le_of_ble_eq_true rfl) (sC_name_kind hj) hdg kk
theorem gC_name_id (X : CallFix p m c cc nL s args TB own) (I : In (KC G) s H0 H locs S) {j : Nat} (hj : j < 8) {idx : Nat} {v : Int} (hv : S.1 4 (j : Int) = v) (hk : Cond.fieldLink own idx "NameSeeker$Name" "id" "I" ∈ TB) (hdg : decode cc pc = .ok (.getfield idx, 3)) (kk : W p l e R s m args below meth c H locs cells slots Q (F0 m (pc + 3) ls (.int (iI v) :: rest))) : W p l e R s m args below meth c H locs cells slots Q (F0 m pc ls (.ref (G.2.2 (41 + 2 * j)) :: rest)) := by
  subst hv
  exact gI X I (ci := 4) (C := RX4) (T := TX4) (N := 7) _ (atC_name hj) rfl inlX4 3 (by decide) hk rfl hdg kk
theorem sC_name_id {v : Int} {j : Nat} (hj : j < 8) : (wC G S).set (41 + 2 * j) (G.2.2 (41 + 2 * j), .inr (4, [.ref (G.2.2 (42 + 2 * j)), .int (iI (S.1 2 (j : Int))), .int (iI (S.1 3 (j : Int))), .int (iI v), .int (iI (S.1 5 (j : Int))), .int (iI (S.1 6 (j : Int))), .int (iI (S.1 7 (j : Int)))])) = wC G (ua S.1 4 (j : Int) v, S.2) := by
  match j, hj with
  | 0, _ => rfl
  | 1, _ => rfl
  | 2, _ => rfl
  | 3, _ => rfl
  | 4, _ => rfl
  | 5, _ => rfl
  | 6, _ => rfl
  | 7, _ => rfl
theorem pC_name_id (X : CallFix p m c cc nL s args TB own) (I : In (KC G) s H0 H locs S) {j : Nat} (hj : j < 8) {idx : Nat} {v : Int} (hk : Cond.fieldLink own idx "NameSeeker$Name" "id" "I" ∈ TB) (hdg : decode cc pc = .ok (.putfield idx, 3)) (kk : ∀ (H1 : Heap) (locs1 : List Loc), In (KC G) s H0 H1 locs1 (ua S.1 4 (j : Int) v, S.2) → W p l e R s m args below meth c H1 locs1 cells slots Q (F0 m (pc + 3) ls rest)) : W p l e R s m args below meth c H locs cells slots Q (F0 m pc ls (.int (iI v) :: .ref (G.2.2 (41 + 2 * j)) :: rest)) :=
  pI X I (S1 := (ua S.1 4 (j : Int) v, S.2)) (ci := 4) (C := RX4) (T := TX4) (N := 7) _ (atC_name hj) rfl inlX4 tyX4 tyX4_ok nmX4 3 (by decide) hk rfl (tyX4_ok 3 (by decide)) (Nat.le_of_ble_eq_true rfl) (sC_name_id hj) hdg kk
theorem gC_name_picked (X : CallFix p m c cc nL s args TB own) (I : In (KC G) s H0 H locs S) {j : Nat} (hj : j < 8) {idx : Nat} {v : Int} (hv : S.1 5 (j : Int) = v) (hk : Cond.fieldLink own idx "NameSeeker$Name" "picked" "I" ∈ TB) (hdg : decode cc pc = .ok (.getfield idx, 3)) (kk : W p l e R s m args below meth c H locs cells slots Q (F0 m (pc + 3) ls (.int (iI v) :: rest))) : W p l e R s m args below meth c H locs cells slots Q (F0 m pc ls (.ref (G.2.2 (41 + 2 * j)) :: rest)) := by
  subst hv
  exact gI X I (ci := 4) (C := RX4) (T := TX4) (N := 7) _ (atC_name hj) rfl inlX4 4 (by decide) hk rfl hdg kk
theorem sC_name_picked {v : Int} {j : Nat} (hj : j < 8) : (wC G S).set (41 + 2 * j) (G.2.2 (41 + 2 * j), .inr (4, [.ref (G.2.2 (42 + 2 * j)), .int (iI (S.1 2 (j : Int))), .int (iI (S.1 3 (j : Int))), .int (iI (S.1 4 (j : Int))), .int (iI v), .int (iI (S.1 6 (j : Int))), .int (iI (S.1 7 (j : Int)))])) = wC G (ua S.1 5 (j : Int) v, S.2) := by
  match j, hj with
  | 0, _ => rfl
  | 1, _ => rfl
  | 2, _ => rfl
  | 3, _ => rfl
  | 4, _ => rfl
  | 5, _ => rfl
  | 6, _ => rfl
  | 7, _ => rfl
theorem pC_name_picked (X : CallFix p m c cc nL s args TB own) (I : In (KC G) s H0 H locs S) {j : Nat} (hj : j < 8) {idx : Nat} {v : Int} (hk : Cond.fieldLink own idx "NameSeeker$Name" "picked" "I" ∈ TB) (hdg : decode cc pc = .ok (.putfield idx, 3)) (kk : ∀ (H1 : Heap) (locs1 : List Loc), In (KC G) s H0 H1 locs1 (ua S.1 5 (j : Int) v, S.2) → W p l e R s m args below meth c H1 locs1 cells slots Q (F0 m (pc + 3) ls rest)) : W p l e R s m args below meth c H locs cells slots Q (F0 m pc ls (.int (iI v) :: .ref (G.2.2 (41 + 2 * j)) :: rest)) :=
  pI X I (S1 := (ua S.1 5 (j : Int) v, S.2)) (ci := 4) (C := RX4) (T := TX4) (N := 7) _ (atC_name hj) rfl inlX4 tyX4 tyX4_ok nmX4 4 (by decide) hk rfl (tyX4_ok 4 (by decide)) (Nat.le_of_ble_eq_true rfl) (sC_name_picked hj) hdg kk
theorem gC_name_beginnings (X : CallFix p m c cc nL s args TB own) (I : In (KC G) s H0 H locs S) {j : Nat} (hj : j < 8) {idx : Nat} {v : Int} (hv : S.1 6 (j : Int) = v) (hk : Cond.fieldLink own idx "NameSeeker$Name" "beginnings" "I" ∈ TB) (hdg : decode cc pc = .ok (.getfield idx, 3)) (kk : W p l e R s m args below meth c H locs cells slots Q (F0 m (pc + 3) ls (.int (iI v) :: rest))) : W p l e R s m args below meth c H locs cells slots Q (F0 m pc ls (.ref (G.2.2 (41 + 2 * j)) :: rest)) := by
  subst hv
  exact gI X I (ci := 4) (C := RX4) (T := TX4) (N := 7) _ (atC_name hj) rfl inlX4 5 (by decide) hk rfl hdg kk
theorem sC_name_beginnings {v : Int} {j : Nat} (hj : j < 8) : (wC G S).set (41 + 2 * j) (G.2.2 (41 + 2 * j), .inr (4, [.ref (G.2.2 (42 + 2 * j)), .int (iI (S.1 2 (j : Int))), .int (iI (S.1 3 (j : Int))), .int (iI (S.1 4 (j : Int))), .int (iI (S.1 5 (j : Int))), .int (iI v), .int (iI (S.1 7 (j : Int)))])) = wC G (ua S.1 6 (j : Int) v, S.2) := by
  match j, hj with
  | 0, _ => rfl
  | 1, _ => rfl
  | 2, _ => rfl
  | 3, _ => rfl
  | 4, _ => rfl
  | 5, _ => rfl
  | 6, _ => rfl
  | 7, _ => rfl
theorem pC_name_beginnings (X : CallFix p m c cc nL s args TB own) (I : In (KC G) s H0 H locs S) {j : Nat} (hj : j < 8) {idx : Nat} {v : Int} (hk : Cond.fieldLink own idx "NameSeeker$Name" "beginnings" "I" ∈ TB) (hdg : decode cc pc = .ok (.putfield idx, 3)) (kk : ∀ (H1 : Heap) (locs1 : List Loc), In (KC G) s H0 H1 locs1 (ua S.1 6 (j : Int) v, S.2) → W p l e R s m args below meth c H1 locs1 cells slots Q (F0 m (pc + 3) ls rest)) : W p l e R s m args below meth c H locs cells slots Q (F0 m pc ls (.int (iI v) :: .ref (G.2.2 (41 + 2 * j)) :: rest)) :=
  pI X I (S1 := (ua S.1 6 (j : Int) v, S.2)) (ci := 4) (C := RX4) (T := TX4) (N := 7) _ (atC_name hj) rfl inlX4 tyX4 tyX4_ok nmX4 5 (by decide) hk rfl (tyX4_ok 5 (by decide)) (Nat.le_of_ble_eq_true rfl) (sC_name_beginnings hj) hdg kk
theorem gC_name_letterBits (X : CallFix p m c cc nL s args TB own) (I : In (KC G) s H0 H locs S) {j : Nat} (hj : j < 8) {idx : Nat} {v : Int} (hv : S.1 7 (j : Int) = v) (hk : Cond.fieldLink own idx "NameSeeker$Name" "letterBits" "I" ∈ TB) (hdg : decode cc pc = .ok (.getfield idx, 3)) (kk : W p l e R s m args below meth c H locs cells slots Q (F0 m (pc + 3) ls (.int (iI v) :: rest))) : W p l e R s m args below meth c H locs cells slots Q (F0 m pc ls (.ref (G.2.2 (41 + 2 * j)) :: rest)) := by
  subst hv
  exact gI X I (ci := 4) (C := RX4) (T := TX4) (N := 7) _ (atC_name hj) rfl inlX4 6 (by decide) hk rfl hdg kk
theorem sC_name_letterBits {v : Int} {j : Nat} (hj : j < 8) : (wC G S).set (41 + 2 * j) (G.2.2 (41 + 2 * j), .inr (4, [.ref (G.2.2 (42 + 2 * j)), .int (iI (S.1 2 (j : Int))), .int (iI (S.1 3 (j : Int))), .int (iI (S.1 4 (j : Int))), .int (iI (S.1 5 (j : Int))), .int (iI (S.1 6 (j : Int))), .int (iI v)])) = wC G (ua S.1 7 (j : Int) v, S.2) := by
  match j, hj with
  | 0, _ => rfl
  | 1, _ => rfl
  | 2, _ => rfl
  | 3, _ => rfl
  | 4, _ => rfl
  | 5, _ => rfl
  | 6, _ => rfl
  | 7, _ => rfl
theorem pC_name_letterBits (X : CallFix p m c cc nL s args TB own) (I : In (KC G) s H0 H locs S) {j : Nat} (hj : j < 8) {idx : Nat} {v : Int} (hk : Cond.fieldLink own idx "NameSeeker$Name" "letterBits" "I" ∈ TB) (hdg : decode cc pc = .ok (.putfield idx, 3)) (kk : ∀ (H1 : Heap) (locs1 : List Loc), In (KC G) s H0 H1 locs1 (ua S.1 7 (j : Int) v, S.2) → W p l e R s m args below meth c H1 locs1 cells slots Q (F0 m (pc + 3) ls rest)) : W p l e R s m args below meth c H locs cells slots Q (F0 m pc ls (.int (iI v) :: .ref (G.2.2 (41 + 2 * j)) :: rest)) :=
  pI X I (S1 := (ua S.1 7 (j : Int) v, S.2)) (ci := 4) (C := RX4) (T := TX4) (N := 7) _ (atC_name hj) rfl inlX4 tyX4 tyX4_ok nmX4 6 (by decide) hk rfl (tyX4_ok 6 (by decide)) (Nat.le_of_ble_eq_true rfl) (sC_name_letterBits hj) hdg kk
theorem atC_text_a : (wC G S)[2]? = some (G.2.2 2, .inl (G.2.1 0, 200, .inl (fun i : Nat => iI (S.1 0 i)))) := rfl
theorem aC_text (X : CallFix p m c cc nL s args TB own) (I : In (KC G) s H0 H locs S) {z v : Int} (hv : S.1 0 z = v) (h0 : 0 ≤ z ∧ z < 200) (hdg : decode cc pc = .ok (.caload, 1)) (kk : W p l e R s m args below meth c H locs cells slots Q (F0 m (pc + 1) ls (.int (iI v) :: rest))) : W p l e R s m args below meth c H locs cells slots Q (F0 m pc ls (.int (iI z) :: .ref (G.2.2 2) :: rest)) := by
  subst hv
  exact aldC X I _ 0 (atC_text_a) rfl h0 (by decide) hdg kk
theorem sC_text_a {z v : Int} : (wC G S).set 2 (G.2.2 2, .inl (G.2.1 0, 200, .inl (fun i : Nat => iI (ua S.1 0 z v 0 i)))) = wC G (ua S.1 0 z v, S.2) := rfl
theorem qC_text (X : CallFix p m c cc nL s args TB own) (I : In (KC G) s H0 H locs S) {z v : Int} (h0 : 0 ≤ z ∧ z < 200) (hc : 0 ≤ v ∧ v < 65536) (hdg : decode cc pc = .ok (.castore, 1)) (kk : ∀ (H1 : Heap) (locs1 : List Loc), In (KC G) s H0 H1 locs1 (ua S.1 0 z v, S.2) → W p l e R s m args below meth c H1 locs1 cells slots Q (F0 m (pc + 1) ls rest)) : W p l e R s m args below meth c H locs cells slots Q (F0 m pc ls (.int (iI v) :: .int (iI z) :: .ref (G.2.2 2) :: rest)) := astC X I (f := S.1) (k := 0) (S1 := (ua S.1 0 z v, S.2)) _ 0 (atC_text_a) rfl h0 (by decide) hc sC_text_a hdg kk
theorem atC_names_a : (wC G S)[4]? = some (G.2.2 4, .inl (G.2.1 3, 8, .inr (.inr (.inr (.inr (fun i : Nat => some (G.2.2 (41 + 2 * S.2 i)))))))) := rfl
theorem aC_names (X : CallFix p m c cc nL s args TB own) (I : In (KC G) s H0 H locs S) {z : Int} (h0 : 0 ≤ z ∧ z < 8) (hdg : decode cc pc = .ok (.aaload, 1)) (kk : W p l e R s m args below meth c H locs cells slots Q (F0 m (pc + 1) ls (.ref (G.2.2 (41 + 2 * S.2 z.toNat)) :: rest))) : W p l e R s m args below meth c H locs cells slots Q (F0 m pc ls (.int (iI z) :: .ref (G.2.2 4) :: rest)) := aldR X I _ 3 (atC_names_a) rfl h0 (by decide) rfl hdg kk
theorem atC_word_a {w : Nat} (hw : w < 4) : (wC G S)[(7 + 2 * w)]? = some (G.2.2 (7 + 2 * w), .inl (G.2.1 0, 6, .inl (fun i : Nat => iI (S.1 (16 + w) i)))) := by
  match w, hw with
  | 0, _ => rfl
  | 1, _ => rfl
  | 2, _ => rfl
  | 3, _ => rfl
theorem aC_word (X : CallFix p m c cc nL s args TB own) (I : In (KC G) s H0 H locs S) {w : Nat} (hw : w < 4) {z v : Int} (hv : S.1 (16 + w) z = v) (h0 : 0 ≤ z ∧ z < 6) (hdg : decode cc pc = .ok (.caload, 1)) (kk : W p l e R s m args below meth c H locs cells slots Q (F0 m (pc + 1) ls (.int (iI v) :: rest))) : W p l e R s m args below meth c H locs cells slots Q (F0 m pc ls (.int (iI z) :: .ref (G.2.2 (7 + 2 * w)) :: rest)) := by
  subst hv
  exact aldC X I _ 0 (atC_word_a hw) rfl h0 (by decide) hdg kk
theorem sC_word_a {z v : Int} {w : Nat} (hw : w < 4) : (wC G S).set (7 + 2 * w) (G.2.2 (7 + 2 * w), .inl (G.2.1 0, 6, .inl (fun i : Nat => iI (ua S.1 (16 + w) z v (16 + w) i)))) = wC G (ua S.1 (16 + w) z v, S.2) := by
  match w, hw with
  | 0, _ => rfl
  | 1, _ => rfl
  | 2, _ => rfl
  | 3, _ => rfl
theorem qC_word (X : CallFix p m c cc nL s args TB own) (I : In (KC G) s H0 H locs S) {w : Nat} (hw : w < 4) {z v : Int} (h0 : 0 ≤ z ∧ z < 6) (hc : 0 ≤ v ∧ v < 65536) (hdg : decode cc pc = .ok (.castore, 1)) (kk : ∀ (H1 : Heap) (locs1 : List Loc), In (KC G) s H0 H1 locs1 (ua S.1 (16 + w) z v, S.2) → W p l e R s m args below meth c H1 locs1 cells slots Q (F0 m (pc + 1) ls rest)) : W p l e R s m args below meth c H locs cells slots Q (F0 m pc ls (.int (iI v) :: .int (iI z) :: .ref (G.2.2 (7 + 2 * w)) :: rest)) := astC X I (f := S.1) (k := (16 + w)) (S1 := (ua S.1 (16 + w) z v, S.2)) _ 0 (atC_word_a hw) rfl h0 (by decide) hc (sC_word_a hw) hdg kk
theorem atC_kept_a : (wC G S)[14]? = some (G.2.2 14, .inl (G.2.1 4, 2, .inr (.inr (.inr (.inr (fun i : Nat => some (G.2.2 (6 + 2 * (2 + i))))))))) := rfl
theorem aC_kept (X : CallFix p m c cc nL s args TB own) (I : In (KC G) s H0 H locs S) {z : Int} (h0 : 0 ≤ z ∧ z < 2) (hdg : decode cc pc = .ok (.aaload, 1)) (kk : W p l e R s m args below meth c H locs cells slots Q (F0 m (pc + 1) ls (.ref (G.2.2 (6 + 2 * (2 + z.toNat))) :: rest))) : W p l e R s m args below meth c H locs cells slots Q (F0 m pc ls (.int (iI z) :: .ref (G.2.2 14) :: rest)) := aldR X I _ 4 (atC_kept_a) rfl h0 (by decide) rfl hdg kk
theorem atC_tailsO_a : (wC G S)[16]? = some (G.2.2 16, .inl (G.2.1 5, 6, .inr (.inr (.inr (.inr (fun i : Nat => some (G.2.2 (17 + i)))))))) := rfl
theorem aC_tailsO (X : CallFix p m c cc nL s args TB own) (I : In (KC G) s H0 H locs S) {z : Int} (h0 : 0 ≤ z ∧ z < 6) (hdg : decode cc pc = .ok (.aaload, 1)) (kk : W p l e R s m args below meth c H locs cells slots Q (F0 m (pc + 1) ls (.ref (G.2.2 (17 + z.toNat)) :: rest))) : W p l e R s m args below meth c H locs cells slots Q (F0 m pc ls (.int (iI z) :: .ref (G.2.2 16) :: rest)) := aldA X I _ 5 (atC_tailsO_a) rfl h0 (by decide) rfl hdg kk
theorem atC_tails_a {k : Nat} (hk : k < 6) : (wC G S)[(17 + k)]? = some (G.2.2 (17 + k), .inl (G.2.1 1, 12, .inl (fun i : Nat => iI (S.1 (30 + k) i)))) := by
  match k, hk with
  | 0, _ => rfl
  | 1, _ => rfl
  | 2, _ => rfl
  | 3, _ => rfl
  | 4, _ => rfl
  | 5, _ => rfl
theorem aC_tails (X : CallFix p m c cc nL s args TB own) (I : In (KC G) s H0 H locs S) {k : Nat} (hk : k < 6) {z v : Int} (hv : S.1 (30 + k) z = v) (h0 : 0 ≤ z ∧ z < 12) (hdg : decode cc pc = .ok (.iaload, 1)) (kk : W p l e R s m args below meth c H locs cells slots Q (F0 m (pc + 1) ls (.int (iI v) :: rest))) : W p l e R s m args below meth c H locs cells slots Q (F0 m pc ls (.int (iI z) :: .ref (G.2.2 (17 + k)) :: rest)) := by
  subst hv
  exact aldI X I _ 1 (atC_tails_a hk) rfl h0 (by decide) hdg kk
theorem sC_tails_a {z v : Int} {k : Nat} (hk : k < 6) : (wC G S).set (17 + k) (G.2.2 (17 + k), .inl (G.2.1 1, 12, .inl (fun i : Nat => iI (ua S.1 (30 + k) z v (30 + k) i)))) = wC G (ua S.1 (30 + k) z v, S.2) := by
  match k, hk with
  | 0, _ => rfl
  | 1, _ => rfl
  | 2, _ => rfl
  | 3, _ => rfl
  | 4, _ => rfl
  | 5, _ => rfl
theorem qC_tails (X : CallFix p m c cc nL s args TB own) (I : In (KC G) s H0 H locs S) {k : Nat} (hk : k < 6) {z v : Int} (h0 : 0 ≤ z ∧ z < 12) (hdg : decode cc pc = .ok (.iastore, 1)) (kk : ∀ (H1 : Heap) (locs1 : List Loc), In (KC G) s H0 H1 locs1 (ua S.1 (30 + k) z v, S.2) → W p l e R s m args below meth c H1 locs1 cells slots Q (F0 m (pc + 1) ls rest)) : W p l e R s m args below meth c H locs cells slots Q (F0 m pc ls (.int (iI v) :: .int (iI z) :: .ref (G.2.2 (17 + k)) :: rest)) := astI X I (f := S.1) (k := (30 + k)) (S1 := (ua S.1 (30 + k) z v, S.2)) _ 1 (atC_tails_a hk) rfl h0 (by decide) (sC_tails_a hk) hdg kk
theorem atC_nextsO_a : (wC G S)[23]? = some (G.2.2 23, .inl (G.2.1 5, 6, .inr (.inr (.inr (.inr (fun i : Nat => some (G.2.2 (24 + i)))))))) := rfl
theorem aC_nextsO (X : CallFix p m c cc nL s args TB own) (I : In (KC G) s H0 H locs S) {z : Int} (h0 : 0 ≤ z ∧ z < 6) (hdg : decode cc pc = .ok (.aaload, 1)) (kk : W p l e R s m args below meth c H locs cells slots Q (F0 m (pc + 1) ls (.ref (G.2.2 (24 + z.toNat)) :: rest))) : W p l e R s m args below meth c H locs cells slots Q (F0 m pc ls (.int (iI z) :: .ref (G.2.2 23) :: rest)) := aldA X I _ 5 (atC_nextsO_a) rfl h0 (by decide) rfl hdg kk
theorem atC_nexts_a {k : Nat} (hk : k < 6) : (wC G S)[(24 + k)]? = some (G.2.2 (24 + k), .inl (G.2.1 1, 12, .inl (fun i : Nat => iI (S.1 (40 + k) i)))) := by
  match k, hk with
  | 0, _ => rfl
  | 1, _ => rfl
  | 2, _ => rfl
  | 3, _ => rfl
  | 4, _ => rfl
  | 5, _ => rfl
theorem aC_nexts (X : CallFix p m c cc nL s args TB own) (I : In (KC G) s H0 H locs S) {k : Nat} (hk : k < 6) {z v : Int} (hv : S.1 (40 + k) z = v) (h0 : 0 ≤ z ∧ z < 12) (hdg : decode cc pc = .ok (.iaload, 1)) (kk : W p l e R s m args below meth c H locs cells slots Q (F0 m (pc + 1) ls (.int (iI v) :: rest))) : W p l e R s m args below meth c H locs cells slots Q (F0 m pc ls (.int (iI z) :: .ref (G.2.2 (24 + k)) :: rest)) := by
  subst hv
  exact aldI X I _ 1 (atC_nexts_a hk) rfl h0 (by decide) hdg kk
theorem sC_nexts_a {z v : Int} {k : Nat} (hk : k < 6) : (wC G S).set (24 + k) (G.2.2 (24 + k), .inl (G.2.1 1, 12, .inl (fun i : Nat => iI (ua S.1 (40 + k) z v (40 + k) i)))) = wC G (ua S.1 (40 + k) z v, S.2) := by
  match k, hk with
  | 0, _ => rfl
  | 1, _ => rfl
  | 2, _ => rfl
  | 3, _ => rfl
  | 4, _ => rfl
  | 5, _ => rfl
theorem qC_nexts (X : CallFix p m c cc nL s args TB own) (I : In (KC G) s H0 H locs S) {k : Nat} (hk : k < 6) {z v : Int} (h0 : 0 ≤ z ∧ z < 12) (hdg : decode cc pc = .ok (.iastore, 1)) (kk : ∀ (H1 : Heap) (locs1 : List Loc), In (KC G) s H0 H1 locs1 (ua S.1 (40 + k) z v, S.2) → W p l e R s m args below meth c H1 locs1 cells slots Q (F0 m (pc + 1) ls rest)) : W p l e R s m args below meth c H locs cells slots Q (F0 m pc ls (.int (iI v) :: .int (iI z) :: .ref (G.2.2 (24 + k)) :: rest)) := astI X I (f := S.1) (k := (40 + k)) (S1 := (ua S.1 (40 + k) z v, S.2)) _ 1 (atC_nexts_a hk) rfl h0 (by decide) (sC_nexts_a hk) hdg kk
theorem atC_counts_a : (wC G S)[30]? = some (G.2.2 30, .inl (G.2.1 1, 7, .inl (fun i : Nat => iI (S.1 9 i)))) := rfl
theorem aC_counts (X : CallFix p m c cc nL s args TB own) (I : In (KC G) s H0 H locs S) {z v : Int} (hv : S.1 9 z = v) (h0 : 0 ≤ z ∧ z < 7) (hdg : decode cc pc = .ok (.iaload, 1)) (kk : W p l e R s m args below meth c H locs cells slots Q (F0 m (pc + 1) ls (.int (iI v) :: rest))) : W p l e R s m args below meth c H locs cells slots Q (F0 m pc ls (.int (iI z) :: .ref (G.2.2 30) :: rest)) := by
  subst hv
  exact aldI X I _ 1 (atC_counts_a) rfl h0 (by decide) hdg kk
theorem sC_counts_a {z v : Int} : (wC G S).set 30 (G.2.2 30, .inl (G.2.1 1, 7, .inl (fun i : Nat => iI (ua S.1 9 z v 9 i)))) = wC G (ua S.1 9 z v, S.2) := rfl
theorem qC_counts (X : CallFix p m c cc nL s args TB own) (I : In (KC G) s H0 H locs S) {z v : Int} (h0 : 0 ≤ z ∧ z < 7) (hdg : decode cc pc = .ok (.iastore, 1)) (kk : ∀ (H1 : Heap) (locs1 : List Loc), In (KC G) s H0 H1 locs1 (ua S.1 9 z v, S.2) → W p l e R s m args below meth c H1 locs1 cells slots Q (F0 m (pc + 1) ls rest)) : W p l e R s m args below meth c H locs cells slots Q (F0 m pc ls (.int (iI v) :: .int (iI z) :: .ref (G.2.2 30) :: rest)) := astI X I (f := S.1) (k := 9) (S1 := (ua S.1 9 z v, S.2)) _ 1 (atC_counts_a) rfl h0 (by decide) sC_counts_a hdg kk
theorem atC_ids_a : (wC G S)[32]? = some (G.2.2 32, .inl (G.2.1 1, 32, .inl (fun i : Nat => iI (S.1 10 i)))) := rfl
theorem aC_ids (X : CallFix p m c cc nL s args TB own) (I : In (KC G) s H0 H locs S) {z v : Int} (hv : S.1 10 z = v) (h0 : 0 ≤ z ∧ z < 32) (hdg : decode cc pc = .ok (.iaload, 1)) (kk : W p l e R s m args below meth c H locs cells slots Q (F0 m (pc + 1) ls (.int (iI v) :: rest))) : W p l e R s m args below meth c H locs cells slots Q (F0 m pc ls (.int (iI z) :: .ref (G.2.2 32) :: rest)) := by
  subst hv
  exact aldI X I _ 1 (atC_ids_a) rfl h0 (by decide) hdg kk
theorem sC_ids_a {z v : Int} : (wC G S).set 32 (G.2.2 32, .inl (G.2.1 1, 32, .inl (fun i : Nat => iI (ua S.1 10 z v 10 i)))) = wC G (ua S.1 10 z v, S.2) := rfl
theorem qC_ids (X : CallFix p m c cc nL s args TB own) (I : In (KC G) s H0 H locs S) {z v : Int} (h0 : 0 ≤ z ∧ z < 32) (hdg : decode cc pc = .ok (.iastore, 1)) (kk : ∀ (H1 : Heap) (locs1 : List Loc), In (KC G) s H0 H1 locs1 (ua S.1 10 z v, S.2) → W p l e R s m args below meth c H1 locs1 cells slots Q (F0 m (pc + 1) ls rest)) : W p l e R s m args below meth c H locs cells slots Q (F0 m pc ls (.int (iI v) :: .int (iI z) :: .ref (G.2.2 32) :: rest)) := astI X I (f := S.1) (k := 10) (S1 := (ua S.1 10 z v, S.2)) _ 1 (atC_ids_a) rfl h0 (by decide) sC_ids_a hdg kk
theorem atC_kcodes_a : (wC G S)[33]? = some (G.2.2 33, .inl (G.2.1 2, 32, .inr (.inl (fun i : Nat => lI (S.1 11 i))))) := rfl
theorem aC_kcodes (X : CallFix p m c cc nL s args TB own) (I : In (KC G) s H0 H locs S) {z v : Int} (hv : S.1 11 z = v) (h0 : 0 ≤ z ∧ z < 32) (hdg : decode cc pc = .ok (.laload, 1)) (kk : W p l e R s m args below meth c H locs cells slots Q (F0 m (pc + 1) ls (.long (lI v) :: rest))) : W p l e R s m args below meth c H locs cells slots Q (F0 m pc ls (.int (iI z) :: .ref (G.2.2 33) :: rest)) := by
  subst hv
  exact aldL X I _ 2 (atC_kcodes_a) rfl h0 (by decide) hdg kk
theorem sC_kcodes_a {z v : Int} : (wC G S).set 33 (G.2.2 33, .inl (G.2.1 2, 32, .inr (.inl (fun i : Nat => lI (ua S.1 11 z v 11 i))))) = wC G (ua S.1 11 z v, S.2) := rfl
theorem qC_kcodes (X : CallFix p m c cc nL s args TB own) (I : In (KC G) s H0 H locs S) {z v : Int} (h0 : 0 ≤ z ∧ z < 32) (hdg : decode cc pc = .ok (.lastore, 1)) (kk : ∀ (H1 : Heap) (locs1 : List Loc), In (KC G) s H0 H1 locs1 (ua S.1 11 z v, S.2) → W p l e R s m args below meth c H1 locs1 cells slots Q (F0 m (pc + 1) ls rest)) : W p l e R s m args below meth c H locs cells slots Q (F0 m pc ls (.long (lI v) :: .int (iI z) :: .ref (G.2.2 33) :: rest)) := astL X I (f := S.1) (k := 11) (S1 := (ua S.1 11 z v, S.2)) _ 2 (atC_kcodes_a) rfl h0 (by decide) sC_kcodes_a hdg kk
theorem atC_ages_a : (wC G S)[34]? = some (G.2.2 34, .inl (G.2.1 1, 32, .inl (fun i : Nat => iI (S.1 12 i)))) := rfl
theorem aC_ages (X : CallFix p m c cc nL s args TB own) (I : In (KC G) s H0 H locs S) {z v : Int} (hv : S.1 12 z = v) (h0 : 0 ≤ z ∧ z < 32) (hdg : decode cc pc = .ok (.iaload, 1)) (kk : W p l e R s m args below meth c H locs cells slots Q (F0 m (pc + 1) ls (.int (iI v) :: rest))) : W p l e R s m args below meth c H locs cells slots Q (F0 m pc ls (.int (iI z) :: .ref (G.2.2 34) :: rest)) := by
  subst hv
  exact aldI X I _ 1 (atC_ages_a) rfl h0 (by decide) hdg kk
theorem sC_ages_a {z v : Int} : (wC G S).set 34 (G.2.2 34, .inl (G.2.1 1, 32, .inl (fun i : Nat => iI (ua S.1 12 z v 12 i)))) = wC G (ua S.1 12 z v, S.2) := rfl
theorem qC_ages (X : CallFix p m c cc nL s args TB own) (I : In (KC G) s H0 H locs S) {z v : Int} (h0 : 0 ≤ z ∧ z < 32) (hdg : decode cc pc = .ok (.iastore, 1)) (kk : ∀ (H1 : Heap) (locs1 : List Loc), In (KC G) s H0 H1 locs1 (ua S.1 12 z v, S.2) → W p l e R s m args below meth c H1 locs1 cells slots Q (F0 m (pc + 1) ls rest)) : W p l e R s m args below meth c H locs cells slots Q (F0 m pc ls (.int (iI v) :: .int (iI z) :: .ref (G.2.2 34) :: rest)) := astI X I (f := S.1) (k := 12) (S1 := (ua S.1 12 z v, S.2)) _ 1 (atC_ages_a) rfl h0 (by decide) sC_ages_a hdg kk
theorem atC_kscores_a : (wC G S)[35]? = some (G.2.2 35, .inl (G.2.1 1, 32, .inl (fun i : Nat => iI (S.1 13 i)))) := rfl
theorem aC_kscores (X : CallFix p m c cc nL s args TB own) (I : In (KC G) s H0 H locs S) {z v : Int} (hv : S.1 13 z = v) (h0 : 0 ≤ z ∧ z < 32) (hdg : decode cc pc = .ok (.iaload, 1)) (kk : W p l e R s m args below meth c H locs cells slots Q (F0 m (pc + 1) ls (.int (iI v) :: rest))) : W p l e R s m args below meth c H locs cells slots Q (F0 m pc ls (.int (iI z) :: .ref (G.2.2 35) :: rest)) := by
  subst hv
  exact aldI X I _ 1 (atC_kscores_a) rfl h0 (by decide) hdg kk
theorem sC_kscores_a {z v : Int} : (wC G S).set 35 (G.2.2 35, .inl (G.2.1 1, 32, .inl (fun i : Nat => iI (ua S.1 13 z v 13 i)))) = wC G (ua S.1 13 z v, S.2) := rfl
theorem qC_kscores (X : CallFix p m c cc nL s args TB own) (I : In (KC G) s H0 H locs S) {z v : Int} (h0 : 0 ≤ z ∧ z < 32) (hdg : decode cc pc = .ok (.iastore, 1)) (kk : ∀ (H1 : Heap) (locs1 : List Loc), In (KC G) s H0 H1 locs1 (ua S.1 13 z v, S.2) → W p l e R s m args below meth c H1 locs1 cells slots Q (F0 m (pc + 1) ls rest)) : W p l e R s m args below meth c H locs cells slots Q (F0 m pc ls (.int (iI v) :: .int (iI z) :: .ref (G.2.2 35) :: rest)) := astI X I (f := S.1) (k := 13) (S1 := (ua S.1 13 z v, S.2)) _ 1 (atC_kscores_a) rfl h0 (by decide) sC_kscores_a hdg kk
theorem atC_acodes_a : (wC G S)[37]? = some (G.2.2 37, .inl (G.2.1 2, 6, .inr (.inl (fun i : Nat => lI (S.1 14 i))))) := rfl
theorem aC_acodes (X : CallFix p m c cc nL s args TB own) (I : In (KC G) s H0 H locs S) {z v : Int} (hv : S.1 14 z = v) (h0 : 0 ≤ z ∧ z < 6) (hdg : decode cc pc = .ok (.laload, 1)) (kk : W p l e R s m args below meth c H locs cells slots Q (F0 m (pc + 1) ls (.long (lI v) :: rest))) : W p l e R s m args below meth c H locs cells slots Q (F0 m pc ls (.int (iI z) :: .ref (G.2.2 37) :: rest)) := by
  subst hv
  exact aldL X I _ 2 (atC_acodes_a) rfl h0 (by decide) hdg kk
theorem sC_acodes_a {z v : Int} : (wC G S).set 37 (G.2.2 37, .inl (G.2.1 2, 6, .inr (.inl (fun i : Nat => lI (ua S.1 14 z v 14 i))))) = wC G (ua S.1 14 z v, S.2) := rfl
theorem qC_acodes (X : CallFix p m c cc nL s args TB own) (I : In (KC G) s H0 H locs S) {z v : Int} (h0 : 0 ≤ z ∧ z < 6) (hdg : decode cc pc = .ok (.lastore, 1)) (kk : ∀ (H1 : Heap) (locs1 : List Loc), In (KC G) s H0 H1 locs1 (ua S.1 14 z v, S.2) → W p l e R s m args below meth c H1 locs1 cells slots Q (F0 m (pc + 1) ls rest)) : W p l e R s m args below meth c H locs cells slots Q (F0 m pc ls (.long (lI v) :: .int (iI z) :: .ref (G.2.2 37) :: rest)) := astL X I (f := S.1) (k := 14) (S1 := (ua S.1 14 z v, S.2)) _ 2 (atC_acodes_a) rfl h0 (by decide) sC_acodes_a hdg kk
theorem atC_rscores_a : (wC G S)[39]? = some (G.2.2 39, .inl (G.2.1 1, 8, .inl (fun i : Nat => iI (S.1 15 i)))) := rfl
theorem aC_rscores (X : CallFix p m c cc nL s args TB own) (I : In (KC G) s H0 H locs S) {z v : Int} (hv : S.1 15 z = v) (h0 : 0 ≤ z ∧ z < 8) (hdg : decode cc pc = .ok (.iaload, 1)) (kk : W p l e R s m args below meth c H locs cells slots Q (F0 m (pc + 1) ls (.int (iI v) :: rest))) : W p l e R s m args below meth c H locs cells slots Q (F0 m pc ls (.int (iI z) :: .ref (G.2.2 39) :: rest)) := by
  subst hv
  exact aldI X I _ 1 (atC_rscores_a) rfl h0 (by decide) hdg kk
theorem sC_rscores_a {z v : Int} : (wC G S).set 39 (G.2.2 39, .inl (G.2.1 1, 8, .inl (fun i : Nat => iI (ua S.1 15 z v 15 i)))) = wC G (ua S.1 15 z v, S.2) := rfl
theorem qC_rscores (X : CallFix p m c cc nL s args TB own) (I : In (KC G) s H0 H locs S) {z v : Int} (h0 : 0 ≤ z ∧ z < 8) (hdg : decode cc pc = .ok (.iastore, 1)) (kk : ∀ (H1 : Heap) (locs1 : List Loc), In (KC G) s H0 H1 locs1 (ua S.1 15 z v, S.2) → W p l e R s m args below meth c H1 locs1 cells slots Q (F0 m (pc + 1) ls rest)) : W p l e R s m args below meth c H locs cells slots Q (F0 m pc ls (.int (iI v) :: .int (iI z) :: .ref (G.2.2 39) :: rest)) := astI X I (f := S.1) (k := 15) (S1 := (ua S.1 15 z v, S.2)) _ 1 (atC_rscores_a) rfl h0 (by decide) sC_rscores_a hdg kk
theorem atC_numbers_a : (wC G S)[40]? = some (G.2.2 40, .inl (G.2.1 1, 8, .inl (fun i : Nat => iI (S.1 29 i)))) := rfl
theorem aC_numbers (X : CallFix p m c cc nL s args TB own) (I : In (KC G) s H0 H locs S) {z v : Int} (hv : S.1 29 z = v) (h0 : 0 ≤ z ∧ z < 8) (hdg : decode cc pc = .ok (.iaload, 1)) (kk : W p l e R s m args below meth c H locs cells slots Q (F0 m (pc + 1) ls (.int (iI v) :: rest))) : W p l e R s m args below meth c H locs cells slots Q (F0 m pc ls (.int (iI z) :: .ref (G.2.2 40) :: rest)) := by
  subst hv
  exact aldI X I _ 1 (atC_numbers_a) rfl h0 (by decide) hdg kk
theorem sC_numbers_a {z v : Int} : (wC G S).set 40 (G.2.2 40, .inl (G.2.1 1, 8, .inl (fun i : Nat => iI (ua S.1 29 z v 29 i)))) = wC G (ua S.1 29 z v, S.2) := rfl
theorem qC_numbers (X : CallFix p m c cc nL s args TB own) (I : In (KC G) s H0 H locs S) {z v : Int} (h0 : 0 ≤ z ∧ z < 8) (hdg : decode cc pc = .ok (.iastore, 1)) (kk : ∀ (H1 : Heap) (locs1 : List Loc), In (KC G) s H0 H1 locs1 (ua S.1 29 z v, S.2) → W p l e R s m args below meth c H1 locs1 cells slots Q (F0 m (pc + 1) ls rest)) : W p l e R s m args below meth c H locs cells slots Q (F0 m pc ls (.int (iI v) :: .int (iI z) :: .ref (G.2.2 40) :: rest)) := astI X I (f := S.1) (k := 29) (S1 := (ua S.1 29 z v, S.2)) _ 1 (atC_numbers_a) rfl h0 (by decide) sC_numbers_a hdg kk
theorem atC_signs_a {j : Nat} (hj : j < 8) : (wC G S)[(42 + 2 * j)]? = some (G.2.2 (42 + 2 * j), .inl (G.2.1 0, 12, .inl (fun i : Nat => iI (S.1 (20 + j) i)))) := by
  match j, hj with
  | 0, _ => rfl
  | 1, _ => rfl
  | 2, _ => rfl
  | 3, _ => rfl
  | 4, _ => rfl
  | 5, _ => rfl
  | 6, _ => rfl
  | 7, _ => rfl
theorem aC_signs (X : CallFix p m c cc nL s args TB own) (I : In (KC G) s H0 H locs S) {j : Nat} (hj : j < 8) {z v : Int} (hv : S.1 (20 + j) z = v) (h0 : 0 ≤ z ∧ z < 12) (hdg : decode cc pc = .ok (.caload, 1)) (kk : W p l e R s m args below meth c H locs cells slots Q (F0 m (pc + 1) ls (.int (iI v) :: rest))) : W p l e R s m args below meth c H locs cells slots Q (F0 m pc ls (.int (iI z) :: .ref (G.2.2 (42 + 2 * j)) :: rest)) := by
  subst hv
  exact aldC X I _ 0 (atC_signs_a hj) rfl h0 (by decide) hdg kk
theorem sC_signs_a {z v : Int} {j : Nat} (hj : j < 8) : (wC G S).set (42 + 2 * j) (G.2.2 (42 + 2 * j), .inl (G.2.1 0, 12, .inl (fun i : Nat => iI (ua S.1 (20 + j) z v (20 + j) i)))) = wC G (ua S.1 (20 + j) z v, S.2) := by
  match j, hj with
  | 0, _ => rfl
  | 1, _ => rfl
  | 2, _ => rfl
  | 3, _ => rfl
  | 4, _ => rfl
  | 5, _ => rfl
  | 6, _ => rfl
  | 7, _ => rfl
theorem qC_signs (X : CallFix p m c cc nL s args TB own) (I : In (KC G) s H0 H locs S) {j : Nat} (hj : j < 8) {z v : Int} (h0 : 0 ≤ z ∧ z < 12) (hc : 0 ≤ v ∧ v < 65536) (hdg : decode cc pc = .ok (.castore, 1)) (kk : ∀ (H1 : Heap) (locs1 : List Loc), In (KC G) s H0 H1 locs1 (ua S.1 (20 + j) z v, S.2) → W p l e R s m args below meth c H1 locs1 cells slots Q (F0 m (pc + 1) ls rest)) : W p l e R s m args below meth c H locs cells slots Q (F0 m pc ls (.int (iI v) :: .int (iI z) :: .ref (G.2.2 (42 + 2 * j)) :: rest)) := astC X I (f := S.1) (k := (20 + j)) (S1 := (ua S.1 (20 + j) z v, S.2)) _ 0 (atC_signs_a hj) rfl h0 (by decide) hc (sC_signs_a hj) hdg kk
end SDC
end
section
def wM (G : Ge) (S : St) : va_W :=
  [(G.2.2 0, .inr (10, [.int (iI (S.1 50 0)), .ref (G.2.2 1), .int (iI (S.1 51 0)), .ref (G.2.2 2), .ref (G.2.2 3), .ref (G.2.2 4), .ref (G.2.2 5), .ref (G.2.2 6), .ref (G.2.2 7), .int (iI (S.1 52 0)), .ref (G.2.2 8), .ref (G.2.2 9), .ref (G.2.2 10), .ref (G.2.2 11), .int (iI (S.1 53 0)), .ref (G.2.2 12), .int (iI (S.1 54 0)), .ref (G.2.2 13), .ref (G.2.2 14), .int (iI (S.1 55 0)), .int (iI (S.1 56 0)), .int (iI (S.1 57 0)), .int (iI (S.1 58 0)), .int (iI (S.1 59 0)), .int (iI (S.1 60 0)), .int (iI (S.1 61 0)), .ref (G.2.2 15), .ref (G.2.2 16), .ref (G.2.2 17), .ref (G.2.2 18), .ref (G.2.2 19), .int (iI (S.1 62 0)), .ref (G.2.2 20), .ref (G.2.2 21), .ref (G.2.2 22), .int (iI (S.1 63 0)), .ref (G.2.2 23), .ref (G.2.2 24), .ref (G.2.2 25), .ref (G.2.2 26), .ref (G.2.2 27)])),
   (G.2.2 1, .inl (G.2.1 1, 200, .inl (fun i : Nat => iI (S.1 1 i)))),
   (G.2.2 2, .inl (G.2.1 1, 96, .inl (fun i : Nat => iI (S.1 2 i)))),
   (G.2.2 3, .inl (G.2.1 1, 8, .inl (fun i : Nat => iI (S.1 3 i)))),
   (G.2.2 4, .inl (G.2.1 1, 8, .inl (fun i : Nat => iI (S.1 4 i)))),
   (G.2.2 5, .inl (G.2.1 1, 8, .inl (fun i : Nat => iI (S.1 5 i)))),
   (G.2.2 6, .inl (G.2.1 1, 8, .inl (fun i : Nat => iI (S.1 6 i)))),
   (G.2.2 7, .inl (G.2.1 1, 3, .inl (fun i : Nat => iI (S.1 7 i)))),
   (G.2.2 8, .inl (G.2.1 1, 96, .inl (fun i : Nat => iI (S.1 8 i)))),
   (G.2.2 9, .inl (G.2.1 1, 8, .inl (fun i : Nat => iI (S.1 9 i)))),
   (G.2.2 10, .inl (G.2.1 1, 8, .inl (fun i : Nat => iI (S.1 10 i)))),
   (G.2.2 11, .inl (G.2.1 1, 3, .inl (fun i : Nat => iI (S.1 11 i)))),
   (G.2.2 12, .inl (G.2.1 1, 6, .inl (fun i : Nat => iI (S.1 12 i)))),
   (G.2.2 13, .inl (G.2.1 1, 12, .inl (fun i : Nat => iI (S.1 13 i)))),
   (G.2.2 14, .inl (G.2.1 1, 2, .inl (fun i : Nat => iI (S.1 14 i)))),
   (G.2.2 15, .inl (G.2.1 2, 6, .inr (.inl (fun i : Nat => lI (S.1 15 i))))),
   (G.2.2 16, .inl (G.2.1 1, 32, .inl (fun i : Nat => iI (S.1 16 i)))),
   (G.2.2 17, .inl (G.2.1 2, 32, .inr (.inl (fun i : Nat => lI (S.1 17 i))))),
   (G.2.2 18, .inl (G.2.1 1, 32, .inl (fun i : Nat => iI (S.1 18 i)))),
   (G.2.2 19, .inl (G.2.1 1, 32, .inl (fun i : Nat => iI (S.1 19 i)))),
   (G.2.2 20, .inl (G.2.1 1, 6, .inl (fun i : Nat => iI (S.1 20 i)))),
   (G.2.2 21, .inl (G.2.1 1, 6, .inl (fun i : Nat => iI (S.1 21 i)))),
   (G.2.2 22, .inl (G.2.1 1, 6, .inl (fun i : Nat => iI (S.1 22 i)))),
   (G.2.2 23, .inl (G.2.1 1, 8, .inl (fun i : Nat => iI (S.1 23 i)))),
   (G.2.2 24, .inl (G.2.1 1, 26, .inl (fun i : Nat => iI (S.1 24 i)))),
   (G.2.2 25, .inl (G.2.1 1, 21, .inl (fun i : Nat => iI (S.1 25 i)))),
   (G.2.2 26, .inl (G.2.1 1, 6, .inl (fun i : Nat => iI (S.1 26 i)))),
   (G.2.2 27, .inl (G.2.1 1, 6, .inl (fun i : Nat => iI (S.1 27 i))))]
def frM (G : Ge) : Nat → Prop := fun q => ∃ i : Nat, i < 28 ∧ q = G.2.2 i
abbrev KM (G : Ge) : Sd := (G.1, tysK G, wM G, frM G)
section SDM
variable {p : Program} {l : Launch} {e : Env} {R : Room} {s : State} {m : MethodId} {args : Array Value} {below : List Frame} {meth : Method} {c : Code} {H : Heap} {locs : List Loc} {cells slots : Nat} {Q : State → Prop}
variable {cc : ByteArray} {pc nL : Nat} {ls : Array Slot} {rest : List Value} {own : String} {S : St} {H0 : Heap} {G : Ge}
theorem atM_model : (wM G S)[0]? = some (G.2.2 0, .inr (10, [.int (iI (S.1 50 0)), .ref (G.2.2 1), .int (iI (S.1 51 0)), .ref (G.2.2 2), .ref (G.2.2 3), .ref (G.2.2 4), .ref (G.2.2 5), .ref (G.2.2 6), .ref (G.2.2 7), .int (iI (S.1 52 0)), .ref (G.2.2 8), .ref (G.2.2 9), .ref (G.2.2 10), .ref (G.2.2 11), .int (iI (S.1 53 0)), .ref (G.2.2 12), .int (iI (S.1 54 0)), .ref (G.2.2 13), .ref (G.2.2 14), .int (iI (S.1 55 0)), .int (iI (S.1 56 0)), .int (iI (S.1 57 0)), .int (iI (S.1 58 0)), .int (iI (S.1 59 0)), .int (iI (S.1 60 0)), .int (iI (S.1 61 0)), .ref (G.2.2 15), .ref (G.2.2 16), .ref (G.2.2 17), .ref (G.2.2 18), .ref (G.2.2 19), .int (iI (S.1 62 0)), .ref (G.2.2 20), .ref (G.2.2 21), .ref (G.2.2 22), .int (iI (S.1 63 0)), .ref (G.2.2 23), .ref (G.2.2 24), .ref (G.2.2 25), .ref (G.2.2 26), .ref (G.2.2 27)])) := rfl
theorem gM_model_length (X : CallFix p m c cc nL s args TB own) (I : In (KM G) s H0 H locs S) {idx : Nat} {v : Int} (hv : S.1 50 0 = v) (hk : Cond.fieldLink own idx "NameSeekerModel" "length" "I" ∈ TB) (hdg : decode cc pc = .ok (.getfield idx, 3)) (kk : W p l e R s m args below meth c H locs cells slots Q (F0 m (pc + 3) ls (.int (iI v) :: rest))) : W p l e R s m args below meth c H locs cells slots Q (F0 m pc ls (.ref (G.2.2 0) :: rest)) := by
  subst hv
  exact gI X I (ci := 10) (C := RX10) (T := TX10) (N := 41) _ (atM_model) rfl inlX10 0 (by decide) hk rfl hdg kk
theorem sM_model_length {v : Int} : (wM G S).set 0 (G.2.2 0, .inr (10, [.int (iI v), .ref (G.2.2 1), .int (iI (S.1 51 0)), .ref (G.2.2 2), .ref (G.2.2 3), .ref (G.2.2 4), .ref (G.2.2 5), .ref (G.2.2 6), .ref (G.2.2 7), .int (iI (S.1 52 0)), .ref (G.2.2 8), .ref (G.2.2 9), .ref (G.2.2 10), .ref (G.2.2 11), .int (iI (S.1 53 0)), .ref (G.2.2 12), .int (iI (S.1 54 0)), .ref (G.2.2 13), .ref (G.2.2 14), .int (iI (S.1 55 0)), .int (iI (S.1 56 0)), .int (iI (S.1 57 0)), .int (iI (S.1 58 0)), .int (iI (S.1 59 0)), .int (iI (S.1 60 0)), .int (iI (S.1 61 0)), .ref (G.2.2 15), .ref (G.2.2 16), .ref (G.2.2 17), .ref (G.2.2 18), .ref (G.2.2 19), .int (iI (S.1 62 0)), .ref (G.2.2 20), .ref (G.2.2 21), .ref (G.2.2 22), .int (iI (S.1 63 0)), .ref (G.2.2 23), .ref (G.2.2 24), .ref (G.2.2 25), .ref (G.2.2 26), .ref (G.2.2 27)])) = wM G (us S.1 50 v, S.2) := rfl
theorem pM_model_length (X : CallFix p m c cc nL s args TB own) (I : In (KM G) s H0 H locs S) {idx : Nat} {v : Int} (hk : Cond.fieldLink own idx "NameSeekerModel" "length" "I" ∈ TB) (hdg : decode cc pc = .ok (.putfield idx, 3)) (kk : ∀ (H1 : Heap) (locs1 : List Loc), In (KM G) s H0 H1 locs1 (us S.1 50 v, S.2) → W p l e R s m args below meth c H1 locs1 cells slots Q (F0 m (pc + 3) ls rest)) : W p l e R s m args below meth c H locs cells slots Q (F0 m pc ls (.int (iI v) :: .ref (G.2.2 0) :: rest)) :=
  pI X I (S1 := (us S.1 50 v, S.2)) (ci := 10) (C := RX10) (T := TX10) (N := 41) _ (atM_model) rfl inlX10 tyX10 tyX10_ok nmX10 0 (by decide) hk rfl (tyX10_ok 0 (by decide)) (Nat.le_of_ble_eq_true rfl) sM_model_length hdg kk
theorem gM_model_text (X : CallFix p m c cc nL s args TB own) (I : In (KM G) s H0 H locs S) {idx : Nat} (hk : Cond.fieldLink own idx "NameSeekerModel" "text" "[I" ∈ TB) (hdg : decode cc pc = .ok (.getfield idx, 3)) (kk : W p l e R s m args below meth c H locs cells slots Q (F0 m (pc + 3) ls (.ref (G.2.2 1) :: rest))) : W p l e R s m args below meth c H locs cells slots Q (F0 m pc ls (.ref (G.2.2 0) :: rest)) := gI X I (ci := 10) (C := RX10) (T := TX10) (N := 41) _ (atM_model) rfl inlX10 1 (by decide) hk rfl hdg kk
theorem gM_model_names (X : CallFix p m c cc nL s args TB own) (I : In (KM G) s H0 H locs S) {idx : Nat} {v : Int} (hv : S.1 51 0 = v) (hk : Cond.fieldLink own idx "NameSeekerModel" "names" "I" ∈ TB) (hdg : decode cc pc = .ok (.getfield idx, 3)) (kk : W p l e R s m args below meth c H locs cells slots Q (F0 m (pc + 3) ls (.int (iI v) :: rest))) : W p l e R s m args below meth c H locs cells slots Q (F0 m pc ls (.ref (G.2.2 0) :: rest)) := by
  subst hv
  exact gI X I (ci := 10) (C := RX10) (T := TX10) (N := 41) _ (atM_model) rfl inlX10 2 (by decide) hk rfl hdg kk
theorem sM_model_names {v : Int} : (wM G S).set 0 (G.2.2 0, .inr (10, [.int (iI (S.1 50 0)), .ref (G.2.2 1), .int (iI v), .ref (G.2.2 2), .ref (G.2.2 3), .ref (G.2.2 4), .ref (G.2.2 5), .ref (G.2.2 6), .ref (G.2.2 7), .int (iI (S.1 52 0)), .ref (G.2.2 8), .ref (G.2.2 9), .ref (G.2.2 10), .ref (G.2.2 11), .int (iI (S.1 53 0)), .ref (G.2.2 12), .int (iI (S.1 54 0)), .ref (G.2.2 13), .ref (G.2.2 14), .int (iI (S.1 55 0)), .int (iI (S.1 56 0)), .int (iI (S.1 57 0)), .int (iI (S.1 58 0)), .int (iI (S.1 59 0)), .int (iI (S.1 60 0)), .int (iI (S.1 61 0)), .ref (G.2.2 15), .ref (G.2.2 16), .ref (G.2.2 17), .ref (G.2.2 18), .ref (G.2.2 19), .int (iI (S.1 62 0)), .ref (G.2.2 20), .ref (G.2.2 21), .ref (G.2.2 22), .int (iI (S.1 63 0)), .ref (G.2.2 23), .ref (G.2.2 24), .ref (G.2.2 25), .ref (G.2.2 26), .ref (G.2.2 27)])) = wM G (us S.1 51 v, S.2) := rfl
theorem pM_model_names (X : CallFix p m c cc nL s args TB own) (I : In (KM G) s H0 H locs S) {idx : Nat} {v : Int} (hk : Cond.fieldLink own idx "NameSeekerModel" "names" "I" ∈ TB) (hdg : decode cc pc = .ok (.putfield idx, 3)) (kk : ∀ (H1 : Heap) (locs1 : List Loc), In (KM G) s H0 H1 locs1 (us S.1 51 v, S.2) → W p l e R s m args below meth c H1 locs1 cells slots Q (F0 m (pc + 3) ls rest)) : W p l e R s m args below meth c H locs cells slots Q (F0 m pc ls (.int (iI v) :: .ref (G.2.2 0) :: rest)) :=
  pI X I (S1 := (us S.1 51 v, S.2)) (ci := 10) (C := RX10) (T := TX10) (N := 41) _ (atM_model) rfl inlX10 tyX10 tyX10_ok nmX10 2 (by decide) hk rfl (tyX10_ok 2 (by decide)) (Nat.le_of_ble_eq_true rfl) sM_model_names hdg kk
theorem gM_model_signs (X : CallFix p m c cc nL s args TB own) (I : In (KM G) s H0 H locs S) {idx : Nat} (hk : Cond.fieldLink own idx "NameSeekerModel" "signs" "[I" ∈ TB) (hdg : decode cc pc = .ok (.getfield idx, 3)) (kk : W p l e R s m args below meth c H locs cells slots Q (F0 m (pc + 3) ls (.ref (G.2.2 2) :: rest))) : W p l e R s m args below meth c H locs cells slots Q (F0 m pc ls (.ref (G.2.2 0) :: rest)) := gI X I (ci := 10) (C := RX10) (T := TX10) (N := 41) _ (atM_model) rfl inlX10 3 (by decide) hk rfl hdg kk
theorem gM_model_sizes (X : CallFix p m c cc nL s args TB own) (I : In (KM G) s H0 H locs S) {idx : Nat} (hk : Cond.fieldLink own idx "NameSeekerModel" "sizes" "[I" ∈ TB) (hdg : decode cc pc = .ok (.getfield idx, 3)) (kk : W p l e R s m args below meth c H locs cells slots Q (F0 m (pc + 3) ls (.ref (G.2.2 3) :: rest))) : W p l e R s m args below meth c H locs cells slots Q (F0 m pc ls (.ref (G.2.2 0) :: rest)) := gI X I (ci := 10) (C := RX10) (T := TX10) (N := 41) _ (atM_model) rfl inlX10 4 (by decide) hk rfl hdg kk
theorem gM_model_kinds (X : CallFix p m c cc nL s args TB own) (I : In (KM G) s H0 H locs S) {idx : Nat} (hk : Cond.fieldLink own idx "NameSeekerModel" "kinds" "[I" ∈ TB) (hdg : decode cc pc = .ok (.getfield idx, 3)) (kk : W p l e R s m args below meth c H locs cells slots Q (F0 m (pc + 3) ls (.ref (G.2.2 4) :: rest))) : W p l e R s m args below meth c H locs cells slots Q (F0 m pc ls (.ref (G.2.2 0) :: rest)) := gI X I (ci := 10) (C := RX10) (T := TX10) (N := 41) _ (atM_model) rfl inlX10 5 (by decide) hk rfl hdg kk
theorem gM_model_ids (X : CallFix p m c cc nL s args TB own) (I : In (KM G) s H0 H locs S) {idx : Nat} (hk : Cond.fieldLink own idx "NameSeekerModel" "ids" "[I" ∈ TB) (hdg : decode cc pc = .ok (.getfield idx, 3)) (kk : W p l e R s m args below meth c H locs cells slots Q (F0 m (pc + 3) ls (.ref (G.2.2 5) :: rest))) : W p l e R s m args below meth c H locs cells slots Q (F0 m pc ls (.ref (G.2.2 0) :: rest)) := gI X I (ci := 10) (C := RX10) (T := TX10) (N := 41) _ (atM_model) rfl inlX10 6 (by decide) hk rfl hdg kk
theorem gM_model_picks (X : CallFix p m c cc nL s args TB own) (I : In (KM G) s H0 H locs S) {idx : Nat} (hk : Cond.fieldLink own idx "NameSeekerModel" "picks" "[I" ∈ TB) (hdg : decode cc pc = .ok (.getfield idx, 3)) (kk : W p l e R s m args below meth c H locs cells slots Q (F0 m (pc + 3) ls (.ref (G.2.2 6) :: rest))) : W p l e R s m args below meth c H locs cells slots Q (F0 m pc ls (.ref (G.2.2 0) :: rest)) := gI X I (ci := 10) (C := RX10) (T := TX10) (N := 41) _ (atM_model) rfl inlX10 7 (by decide) hk rfl hdg kk
theorem gM_model_worths (X : CallFix p m c cc nL s args TB own) (I : In (KM G) s H0 H locs S) {idx : Nat} (hk : Cond.fieldLink own idx "NameSeekerModel" "worths" "[I" ∈ TB) (hdg : decode cc pc = .ok (.getfield idx, 3)) (kk : W p l e R s m args below meth c H locs cells slots Q (F0 m (pc + 3) ls (.ref (G.2.2 7) :: rest))) : W p l e R s m args below meth c H locs cells slots Q (F0 m pc ls (.ref (G.2.2 0) :: rest)) := gI X I (ci := 10) (C := RX10) (T := TX10) (N := 41) _ (atM_model) rfl inlX10 8 (by decide) hk rfl hdg kk
theorem gM_model_readNames (X : CallFix p m c cc nL s args TB own) (I : In (KM G) s H0 H locs S) {idx : Nat} {v : Int} (hv : S.1 52 0 = v) (hk : Cond.fieldLink own idx "NameSeekerModel" "readNames" "I" ∈ TB) (hdg : decode cc pc = .ok (.getfield idx, 3)) (kk : W p l e R s m args below meth c H locs cells slots Q (F0 m (pc + 3) ls (.int (iI v) :: rest))) : W p l e R s m args below meth c H locs cells slots Q (F0 m pc ls (.ref (G.2.2 0) :: rest)) := by
  subst hv
  exact gI X I (ci := 10) (C := RX10) (T := TX10) (N := 41) _ (atM_model) rfl inlX10 9 (by decide) hk rfl hdg kk
theorem sM_model_readNames {v : Int} : (wM G S).set 0 (G.2.2 0, .inr (10, [.int (iI (S.1 50 0)), .ref (G.2.2 1), .int (iI (S.1 51 0)), .ref (G.2.2 2), .ref (G.2.2 3), .ref (G.2.2 4), .ref (G.2.2 5), .ref (G.2.2 6), .ref (G.2.2 7), .int (iI v), .ref (G.2.2 8), .ref (G.2.2 9), .ref (G.2.2 10), .ref (G.2.2 11), .int (iI (S.1 53 0)), .ref (G.2.2 12), .int (iI (S.1 54 0)), .ref (G.2.2 13), .ref (G.2.2 14), .int (iI (S.1 55 0)), .int (iI (S.1 56 0)), .int (iI (S.1 57 0)), .int (iI (S.1 58 0)), .int (iI (S.1 59 0)), .int (iI (S.1 60 0)), .int (iI (S.1 61 0)), .ref (G.2.2 15), .ref (G.2.2 16), .ref (G.2.2 17), .ref (G.2.2 18), .ref (G.2.2 19), .int (iI (S.1 62 0)), .ref (G.2.2 20), .ref (G.2.2 21), .ref (G.2.2 22), .int (iI (S.1 63 0)), .ref (G.2.2 23), .ref (G.2.2 24), .ref (G.2.2 25), .ref (G.2.2 26), .ref (G.2.2 27)])) = wM G (us S.1 52 v, S.2) := rfl
theorem pM_model_readNames (X : CallFix p m c cc nL s args TB own) (I : In (KM G) s H0 H locs S) {idx : Nat} {v : Int} (hk : Cond.fieldLink own idx "NameSeekerModel" "readNames" "I" ∈ TB) (hdg : decode cc pc = .ok (.putfield idx, 3)) (kk : ∀ (H1 : Heap) (locs1 : List Loc), In (KM G) s H0 H1 locs1 (us S.1 52 v, S.2) → W p l e R s m args below meth c H1 locs1 cells slots Q (F0 m (pc + 3) ls rest)) : W p l e R s m args below meth c H locs cells slots Q (F0 m pc ls (.int (iI v) :: .ref (G.2.2 0) :: rest)) :=
  pI X I (S1 := (us S.1 52 v, S.2)) (ci := 10) (C := RX10) (T := TX10) (N := 41) _ (atM_model) rfl inlX10 tyX10 tyX10_ok nmX10 9 (by decide) hk rfl (tyX10_ok 9 (by decide)) (Nat.le_of_ble_eq_true rfl) sM_model_readNames hdg kk
theorem gM_model_readSigns (X : CallFix p m c cc nL s args TB own) (I : In (KM G) s H0 H locs S) {idx : Nat} (hk : Cond.fieldLink own idx "NameSeekerModel" "readSigns" "[I" ∈ TB) (hdg : decode cc pc = .ok (.getfield idx, 3)) (kk : W p l e R s m args below meth c H locs cells slots Q (F0 m (pc + 3) ls (.ref (G.2.2 8) :: rest))) : W p l e R s m args below meth c H locs cells slots Q (F0 m pc ls (.ref (G.2.2 0) :: rest)) := gI X I (ci := 10) (C := RX10) (T := TX10) (N := 41) _ (atM_model) rfl inlX10 10 (by decide) hk rfl hdg kk
theorem gM_model_readSizes (X : CallFix p m c cc nL s args TB own) (I : In (KM G) s H0 H locs S) {idx : Nat} (hk : Cond.fieldLink own idx "NameSeekerModel" "readSizes" "[I" ∈ TB) (hdg : decode cc pc = .ok (.getfield idx, 3)) (kk : W p l e R s m args below meth c H locs cells slots Q (F0 m (pc + 3) ls (.ref (G.2.2 9) :: rest))) : W p l e R s m args below meth c H locs cells slots Q (F0 m pc ls (.ref (G.2.2 0) :: rest)) := gI X I (ci := 10) (C := RX10) (T := TX10) (N := 41) _ (atM_model) rfl inlX10 11 (by decide) hk rfl hdg kk
theorem gM_model_readKinds (X : CallFix p m c cc nL s args TB own) (I : In (KM G) s H0 H locs S) {idx : Nat} (hk : Cond.fieldLink own idx "NameSeekerModel" "readKinds" "[I" ∈ TB) (hdg : decode cc pc = .ok (.getfield idx, 3)) (kk : W p l e R s m args below meth c H locs cells slots Q (F0 m (pc + 3) ls (.ref (G.2.2 10) :: rest))) : W p l e R s m args below meth c H locs cells slots Q (F0 m pc ls (.ref (G.2.2 0) :: rest)) := gI X I (ci := 10) (C := RX10) (T := TX10) (N := 41) _ (atM_model) rfl inlX10 12 (by decide) hk rfl hdg kk
theorem gM_model_readWorths (X : CallFix p m c cc nL s args TB own) (I : In (KM G) s H0 H locs S) {idx : Nat} (hk : Cond.fieldLink own idx "NameSeekerModel" "readWorths" "[I" ∈ TB) (hdg : decode cc pc = .ok (.getfield idx, 3)) (kk : W p l e R s m args below meth c H locs cells slots Q (F0 m (pc + 3) ls (.ref (G.2.2 11) :: rest))) : W p l e R s m args below meth c H locs cells slots Q (F0 m pc ls (.ref (G.2.2 0) :: rest)) := gI X I (ci := 10) (C := RX10) (T := TX10) (N := 41) _ (atM_model) rfl inlX10 13 (by decide) hk rfl hdg kk
theorem gM_model_wordSize (X : CallFix p m c cc nL s args TB own) (I : In (KM G) s H0 H locs S) {idx : Nat} {v : Int} (hv : S.1 53 0 = v) (hk : Cond.fieldLink own idx "NameSeekerModel" "wordSize" "I" ∈ TB) (hdg : decode cc pc = .ok (.getfield idx, 3)) (kk : W p l e R s m args below meth c H locs cells slots Q (F0 m (pc + 3) ls (.int (iI v) :: rest))) : W p l e R s m args below meth c H locs cells slots Q (F0 m pc ls (.ref (G.2.2 0) :: rest)) := by
  subst hv
  exact gI X I (ci := 10) (C := RX10) (T := TX10) (N := 41) _ (atM_model) rfl inlX10 14 (by decide) hk rfl hdg kk
theorem sM_model_wordSize {v : Int} : (wM G S).set 0 (G.2.2 0, .inr (10, [.int (iI (S.1 50 0)), .ref (G.2.2 1), .int (iI (S.1 51 0)), .ref (G.2.2 2), .ref (G.2.2 3), .ref (G.2.2 4), .ref (G.2.2 5), .ref (G.2.2 6), .ref (G.2.2 7), .int (iI (S.1 52 0)), .ref (G.2.2 8), .ref (G.2.2 9), .ref (G.2.2 10), .ref (G.2.2 11), .int (iI v), .ref (G.2.2 12), .int (iI (S.1 54 0)), .ref (G.2.2 13), .ref (G.2.2 14), .int (iI (S.1 55 0)), .int (iI (S.1 56 0)), .int (iI (S.1 57 0)), .int (iI (S.1 58 0)), .int (iI (S.1 59 0)), .int (iI (S.1 60 0)), .int (iI (S.1 61 0)), .ref (G.2.2 15), .ref (G.2.2 16), .ref (G.2.2 17), .ref (G.2.2 18), .ref (G.2.2 19), .int (iI (S.1 62 0)), .ref (G.2.2 20), .ref (G.2.2 21), .ref (G.2.2 22), .int (iI (S.1 63 0)), .ref (G.2.2 23), .ref (G.2.2 24), .ref (G.2.2 25), .ref (G.2.2 26), .ref (G.2.2 27)])) = wM G (us S.1 53 v, S.2) := rfl
theorem pM_model_wordSize (X : CallFix p m c cc nL s args TB own) (I : In (KM G) s H0 H locs S) {idx : Nat} {v : Int} (hk : Cond.fieldLink own idx "NameSeekerModel" "wordSize" "I" ∈ TB) (hdg : decode cc pc = .ok (.putfield idx, 3)) (kk : ∀ (H1 : Heap) (locs1 : List Loc), In (KM G) s H0 H1 locs1 (us S.1 53 v, S.2) → W p l e R s m args below meth c H1 locs1 cells slots Q (F0 m (pc + 3) ls rest)) : W p l e R s m args below meth c H locs cells slots Q (F0 m pc ls (.int (iI v) :: .ref (G.2.2 0) :: rest)) :=
  pI X I (S1 := (us S.1 53 v, S.2)) (ci := 10) (C := RX10) (T := TX10) (N := 41) _ (atM_model) rfl inlX10 tyX10 tyX10_ok nmX10 14 (by decide) hk rfl (tyX10_ok 14 (by decide)) (Nat.le_of_ble_eq_true rfl) sM_model_wordSize hdg kk
theorem gM_model_wordRow (X : CallFix p m c cc nL s args TB own) (I : In (KM G) s H0 H locs S) {idx : Nat} (hk : Cond.fieldLink own idx "NameSeekerModel" "wordRow" "[I" ∈ TB) (hdg : decode cc pc = .ok (.getfield idx, 3)) (kk : W p l e R s m args below meth c H locs cells slots Q (F0 m (pc + 3) ls (.ref (G.2.2 12) :: rest))) : W p l e R s m args below meth c H locs cells slots Q (F0 m pc ls (.ref (G.2.2 0) :: rest)) := gI X I (ci := 10) (C := RX10) (T := TX10) (N := 41) _ (atM_model) rfl inlX10 15 (by decide) hk rfl hdg kk
theorem gM_model_kept (X : CallFix p m c cc nL s args TB own) (I : In (KM G) s H0 H locs S) {idx : Nat} {v : Int} (hv : S.1 54 0 = v) (hk : Cond.fieldLink own idx "NameSeekerModel" "kept" "I" ∈ TB) (hdg : decode cc pc = .ok (.getfield idx, 3)) (kk : W p l e R s m args below meth c H locs cells slots Q (F0 m (pc + 3) ls (.int (iI v) :: rest))) : W p l e R s m args below meth c H locs cells slots Q (F0 m pc ls (.ref (G.2.2 0) :: rest)) := by
  subst hv
  exact gI X I (ci := 10) (C := RX10) (T := TX10) (N := 41) _ (atM_model) rfl inlX10 16 (by decide) hk rfl hdg kk
theorem sM_model_kept {v : Int} : (wM G S).set 0 (G.2.2 0, .inr (10, [.int (iI (S.1 50 0)), .ref (G.2.2 1), .int (iI (S.1 51 0)), .ref (G.2.2 2), .ref (G.2.2 3), .ref (G.2.2 4), .ref (G.2.2 5), .ref (G.2.2 6), .ref (G.2.2 7), .int (iI (S.1 52 0)), .ref (G.2.2 8), .ref (G.2.2 9), .ref (G.2.2 10), .ref (G.2.2 11), .int (iI (S.1 53 0)), .ref (G.2.2 12), .int (iI v), .ref (G.2.2 13), .ref (G.2.2 14), .int (iI (S.1 55 0)), .int (iI (S.1 56 0)), .int (iI (S.1 57 0)), .int (iI (S.1 58 0)), .int (iI (S.1 59 0)), .int (iI (S.1 60 0)), .int (iI (S.1 61 0)), .ref (G.2.2 15), .ref (G.2.2 16), .ref (G.2.2 17), .ref (G.2.2 18), .ref (G.2.2 19), .int (iI (S.1 62 0)), .ref (G.2.2 20), .ref (G.2.2 21), .ref (G.2.2 22), .int (iI (S.1 63 0)), .ref (G.2.2 23), .ref (G.2.2 24), .ref (G.2.2 25), .ref (G.2.2 26), .ref (G.2.2 27)])) = wM G (us S.1 54 v, S.2) := rfl
theorem pM_model_kept (X : CallFix p m c cc nL s args TB own) (I : In (KM G) s H0 H locs S) {idx : Nat} {v : Int} (hk : Cond.fieldLink own idx "NameSeekerModel" "kept" "I" ∈ TB) (hdg : decode cc pc = .ok (.putfield idx, 3)) (kk : ∀ (H1 : Heap) (locs1 : List Loc), In (KM G) s H0 H1 locs1 (us S.1 54 v, S.2) → W p l e R s m args below meth c H1 locs1 cells slots Q (F0 m (pc + 3) ls rest)) : W p l e R s m args below meth c H locs cells slots Q (F0 m pc ls (.int (iI v) :: .ref (G.2.2 0) :: rest)) :=
  pI X I (S1 := (us S.1 54 v, S.2)) (ci := 10) (C := RX10) (T := TX10) (N := 41) _ (atM_model) rfl inlX10 tyX10 tyX10_ok nmX10 16 (by decide) hk rfl (tyX10_ok 16 (by decide)) (Nat.le_of_ble_eq_true rfl) sM_model_kept hdg kk
theorem gM_model_keptRows (X : CallFix p m c cc nL s args TB own) (I : In (KM G) s H0 H locs S) {idx : Nat} (hk : Cond.fieldLink own idx "NameSeekerModel" "keptRows" "[I" ∈ TB) (hdg : decode cc pc = .ok (.getfield idx, 3)) (kk : W p l e R s m args below meth c H locs cells slots Q (F0 m (pc + 3) ls (.ref (G.2.2 13) :: rest))) : W p l e R s m args below meth c H locs cells slots Q (F0 m pc ls (.ref (G.2.2 0) :: rest)) := gI X I (ci := 10) (C := RX10) (T := TX10) (N := 41) _ (atM_model) rfl inlX10 17 (by decide) hk rfl hdg kk
theorem gM_model_keptSizes (X : CallFix p m c cc nL s args TB own) (I : In (KM G) s H0 H locs S) {idx : Nat} (hk : Cond.fieldLink own idx "NameSeekerModel" "keptSizes" "[I" ∈ TB) (hdg : decode cc pc = .ok (.getfield idx, 3)) (kk : W p l e R s m args below meth c H locs cells slots Q (F0 m (pc + 3) ls (.ref (G.2.2 14) :: rest))) : W p l e R s m args below meth c H locs cells slots Q (F0 m pc ls (.ref (G.2.2 0) :: rest)) := gI X I (ci := 10) (C := RX10) (T := TX10) (N := 41) _ (atM_model) rfl inlX10 18 (by decide) hk rfl hdg kk
theorem gM_model_laid (X : CallFix p m c cc nL s args TB own) (I : In (KM G) s H0 H locs S) {idx : Nat} {v : Int} (hv : S.1 55 0 = v) (hk : Cond.fieldLink own idx "NameSeekerModel" "laid" "I" ∈ TB) (hdg : decode cc pc = .ok (.getfield idx, 3)) (kk : W p l e R s m args below meth c H locs cells slots Q (F0 m (pc + 3) ls (.int (iI v) :: rest))) : W p l e R s m args below meth c H locs cells slots Q (F0 m pc ls (.ref (G.2.2 0) :: rest)) := by
  subst hv
  exact gI X I (ci := 10) (C := RX10) (T := TX10) (N := 41) _ (atM_model) rfl inlX10 19 (by decide) hk rfl hdg kk
theorem sM_model_laid {v : Int} : (wM G S).set 0 (G.2.2 0, .inr (10, [.int (iI (S.1 50 0)), .ref (G.2.2 1), .int (iI (S.1 51 0)), .ref (G.2.2 2), .ref (G.2.2 3), .ref (G.2.2 4), .ref (G.2.2 5), .ref (G.2.2 6), .ref (G.2.2 7), .int (iI (S.1 52 0)), .ref (G.2.2 8), .ref (G.2.2 9), .ref (G.2.2 10), .ref (G.2.2 11), .int (iI (S.1 53 0)), .ref (G.2.2 12), .int (iI (S.1 54 0)), .ref (G.2.2 13), .ref (G.2.2 14), .int (iI v), .int (iI (S.1 56 0)), .int (iI (S.1 57 0)), .int (iI (S.1 58 0)), .int (iI (S.1 59 0)), .int (iI (S.1 60 0)), .int (iI (S.1 61 0)), .ref (G.2.2 15), .ref (G.2.2 16), .ref (G.2.2 17), .ref (G.2.2 18), .ref (G.2.2 19), .int (iI (S.1 62 0)), .ref (G.2.2 20), .ref (G.2.2 21), .ref (G.2.2 22), .int (iI (S.1 63 0)), .ref (G.2.2 23), .ref (G.2.2 24), .ref (G.2.2 25), .ref (G.2.2 26), .ref (G.2.2 27)])) = wM G (us S.1 55 v, S.2) := rfl
theorem pM_model_laid (X : CallFix p m c cc nL s args TB own) (I : In (KM G) s H0 H locs S) {idx : Nat} {v : Int} (hk : Cond.fieldLink own idx "NameSeekerModel" "laid" "I" ∈ TB) (hdg : decode cc pc = .ok (.putfield idx, 3)) (kk : ∀ (H1 : Heap) (locs1 : List Loc), In (KM G) s H0 H1 locs1 (us S.1 55 v, S.2) → W p l e R s m args below meth c H1 locs1 cells slots Q (F0 m (pc + 3) ls rest)) : W p l e R s m args below meth c H locs cells slots Q (F0 m pc ls (.int (iI v) :: .ref (G.2.2 0) :: rest)) :=
  pI X I (S1 := (us S.1 55 v, S.2)) (ci := 10) (C := RX10) (T := TX10) (N := 41) _ (atM_model) rfl inlX10 tyX10 tyX10_ok nmX10 19 (by decide) hk rfl (tyX10_ok 19 (by decide)) (Nat.le_of_ble_eq_true rfl) sM_model_laid hdg kk
theorem gM_model_tick (X : CallFix p m c cc nL s args TB own) (I : In (KM G) s H0 H locs S) {idx : Nat} {v : Int} (hv : S.1 56 0 = v) (hk : Cond.fieldLink own idx "NameSeekerModel" "tick" "I" ∈ TB) (hdg : decode cc pc = .ok (.getfield idx, 3)) (kk : W p l e R s m args below meth c H locs cells slots Q (F0 m (pc + 3) ls (.int (iI v) :: rest))) : W p l e R s m args below meth c H locs cells slots Q (F0 m pc ls (.ref (G.2.2 0) :: rest)) := by
  subst hv
  exact gI X I (ci := 10) (C := RX10) (T := TX10) (N := 41) _ (atM_model) rfl inlX10 20 (by decide) hk rfl hdg kk
theorem sM_model_tick {v : Int} : (wM G S).set 0 (G.2.2 0, .inr (10, [.int (iI (S.1 50 0)), .ref (G.2.2 1), .int (iI (S.1 51 0)), .ref (G.2.2 2), .ref (G.2.2 3), .ref (G.2.2 4), .ref (G.2.2 5), .ref (G.2.2 6), .ref (G.2.2 7), .int (iI (S.1 52 0)), .ref (G.2.2 8), .ref (G.2.2 9), .ref (G.2.2 10), .ref (G.2.2 11), .int (iI (S.1 53 0)), .ref (G.2.2 12), .int (iI (S.1 54 0)), .ref (G.2.2 13), .ref (G.2.2 14), .int (iI (S.1 55 0)), .int (iI v), .int (iI (S.1 57 0)), .int (iI (S.1 58 0)), .int (iI (S.1 59 0)), .int (iI (S.1 60 0)), .int (iI (S.1 61 0)), .ref (G.2.2 15), .ref (G.2.2 16), .ref (G.2.2 17), .ref (G.2.2 18), .ref (G.2.2 19), .int (iI (S.1 62 0)), .ref (G.2.2 20), .ref (G.2.2 21), .ref (G.2.2 22), .int (iI (S.1 63 0)), .ref (G.2.2 23), .ref (G.2.2 24), .ref (G.2.2 25), .ref (G.2.2 26), .ref (G.2.2 27)])) = wM G (us S.1 56 v, S.2) := rfl
theorem pM_model_tick (X : CallFix p m c cc nL s args TB own) (I : In (KM G) s H0 H locs S) {idx : Nat} {v : Int} (hk : Cond.fieldLink own idx "NameSeekerModel" "tick" "I" ∈ TB) (hdg : decode cc pc = .ok (.putfield idx, 3)) (kk : ∀ (H1 : Heap) (locs1 : List Loc), In (KM G) s H0 H1 locs1 (us S.1 56 v, S.2) → W p l e R s m args below meth c H1 locs1 cells slots Q (F0 m (pc + 3) ls rest)) : W p l e R s m args below meth c H locs cells slots Q (F0 m pc ls (.int (iI v) :: .ref (G.2.2 0) :: rest)) :=
  pI X I (S1 := (us S.1 56 v, S.2)) (ci := 10) (C := RX10) (T := TX10) (N := 41) _ (atM_model) rfl inlX10 tyX10 tyX10_ok nmX10 20 (by decide) hk rfl (tyX10_ok 20 (by decide)) (Nat.le_of_ble_eq_true rfl) sM_model_tick hdg kk
theorem gM_model_age (X : CallFix p m c cc nL s args TB own) (I : In (KM G) s H0 H locs S) {idx : Nat} {v : Int} (hv : S.1 57 0 = v) (hk : Cond.fieldLink own idx "NameSeekerModel" "age" "I" ∈ TB) (hdg : decode cc pc = .ok (.getfield idx, 3)) (kk : W p l e R s m args below meth c H locs cells slots Q (F0 m (pc + 3) ls (.int (iI v) :: rest))) : W p l e R s m args below meth c H locs cells slots Q (F0 m pc ls (.ref (G.2.2 0) :: rest)) := by
  subst hv
  exact gI X I (ci := 10) (C := RX10) (T := TX10) (N := 41) _ (atM_model) rfl inlX10 21 (by decide) hk rfl hdg kk
theorem sM_model_age {v : Int} : (wM G S).set 0 (G.2.2 0, .inr (10, [.int (iI (S.1 50 0)), .ref (G.2.2 1), .int (iI (S.1 51 0)), .ref (G.2.2 2), .ref (G.2.2 3), .ref (G.2.2 4), .ref (G.2.2 5), .ref (G.2.2 6), .ref (G.2.2 7), .int (iI (S.1 52 0)), .ref (G.2.2 8), .ref (G.2.2 9), .ref (G.2.2 10), .ref (G.2.2 11), .int (iI (S.1 53 0)), .ref (G.2.2 12), .int (iI (S.1 54 0)), .ref (G.2.2 13), .ref (G.2.2 14), .int (iI (S.1 55 0)), .int (iI (S.1 56 0)), .int (iI v), .int (iI (S.1 58 0)), .int (iI (S.1 59 0)), .int (iI (S.1 60 0)), .int (iI (S.1 61 0)), .ref (G.2.2 15), .ref (G.2.2 16), .ref (G.2.2 17), .ref (G.2.2 18), .ref (G.2.2 19), .int (iI (S.1 62 0)), .ref (G.2.2 20), .ref (G.2.2 21), .ref (G.2.2 22), .int (iI (S.1 63 0)), .ref (G.2.2 23), .ref (G.2.2 24), .ref (G.2.2 25), .ref (G.2.2 26), .ref (G.2.2 27)])) = wM G (us S.1 57 v, S.2) := rfl
theorem pM_model_age (X : CallFix p m c cc nL s args TB own) (I : In (KM G) s H0 H locs S) {idx : Nat} {v : Int} (hk : Cond.fieldLink own idx "NameSeekerModel" "age" "I" ∈ TB) (hdg : decode cc pc = .ok (.putfield idx, 3)) (kk : ∀ (H1 : Heap) (locs1 : List Loc), In (KM G) s H0 H1 locs1 (us S.1 57 v, S.2) → W p l e R s m args below meth c H1 locs1 cells slots Q (F0 m (pc + 3) ls rest)) : W p l e R s m args below meth c H locs cells slots Q (F0 m pc ls (.int (iI v) :: .ref (G.2.2 0) :: rest)) :=
  pI X I (S1 := (us S.1 57 v, S.2)) (ci := 10) (C := RX10) (T := TX10) (N := 41) _ (atM_model) rfl inlX10 tyX10 tyX10_ok nmX10 21 (by decide) hk rfl (tyX10_ok 21 (by decide)) (Nat.le_of_ble_eq_true rfl) sM_model_age hdg kk
theorem gM_model_hits (X : CallFix p m c cc nL s args TB own) (I : In (KM G) s H0 H locs S) {idx : Nat} {v : Int} (hv : S.1 58 0 = v) (hk : Cond.fieldLink own idx "NameSeekerModel" "hits" "I" ∈ TB) (hdg : decode cc pc = .ok (.getfield idx, 3)) (kk : W p l e R s m args below meth c H locs cells slots Q (F0 m (pc + 3) ls (.int (iI v) :: rest))) : W p l e R s m args below meth c H locs cells slots Q (F0 m pc ls (.ref (G.2.2 0) :: rest)) := by
  subst hv
  exact gI X I (ci := 10) (C := RX10) (T := TX10) (N := 41) _ (atM_model) rfl inlX10 22 (by decide) hk rfl hdg kk
theorem sM_model_hits {v : Int} : (wM G S).set 0 (G.2.2 0, .inr (10, [.int (iI (S.1 50 0)), .ref (G.2.2 1), .int (iI (S.1 51 0)), .ref (G.2.2 2), .ref (G.2.2 3), .ref (G.2.2 4), .ref (G.2.2 5), .ref (G.2.2 6), .ref (G.2.2 7), .int (iI (S.1 52 0)), .ref (G.2.2 8), .ref (G.2.2 9), .ref (G.2.2 10), .ref (G.2.2 11), .int (iI (S.1 53 0)), .ref (G.2.2 12), .int (iI (S.1 54 0)), .ref (G.2.2 13), .ref (G.2.2 14), .int (iI (S.1 55 0)), .int (iI (S.1 56 0)), .int (iI (S.1 57 0)), .int (iI v), .int (iI (S.1 59 0)), .int (iI (S.1 60 0)), .int (iI (S.1 61 0)), .ref (G.2.2 15), .ref (G.2.2 16), .ref (G.2.2 17), .ref (G.2.2 18), .ref (G.2.2 19), .int (iI (S.1 62 0)), .ref (G.2.2 20), .ref (G.2.2 21), .ref (G.2.2 22), .int (iI (S.1 63 0)), .ref (G.2.2 23), .ref (G.2.2 24), .ref (G.2.2 25), .ref (G.2.2 26), .ref (G.2.2 27)])) = wM G (us S.1 58 v, S.2) := rfl
theorem pM_model_hits (X : CallFix p m c cc nL s args TB own) (I : In (KM G) s H0 H locs S) {idx : Nat} {v : Int} (hk : Cond.fieldLink own idx "NameSeekerModel" "hits" "I" ∈ TB) (hdg : decode cc pc = .ok (.putfield idx, 3)) (kk : ∀ (H1 : Heap) (locs1 : List Loc), In (KM G) s H0 H1 locs1 (us S.1 58 v, S.2) → W p l e R s m args below meth c H1 locs1 cells slots Q (F0 m (pc + 3) ls rest)) : W p l e R s m args below meth c H locs cells slots Q (F0 m pc ls (.int (iI v) :: .ref (G.2.2 0) :: rest)) :=
  pI X I (S1 := (us S.1 58 v, S.2)) (ci := 10) (C := RX10) (T := TX10) (N := 41) _ (atM_model) rfl inlX10 tyX10 tyX10_ok nmX10 22 (by decide) hk rfl (tyX10_ok 22 (by decide)) (Nat.le_of_ble_eq_true rfl) sM_model_hits hdg kk
theorem gM_model_misses (X : CallFix p m c cc nL s args TB own) (I : In (KM G) s H0 H locs S) {idx : Nat} {v : Int} (hv : S.1 59 0 = v) (hk : Cond.fieldLink own idx "NameSeekerModel" "misses" "I" ∈ TB) (hdg : decode cc pc = .ok (.getfield idx, 3)) (kk : W p l e R s m args below meth c H locs cells slots Q (F0 m (pc + 3) ls (.int (iI v) :: rest))) : W p l e R s m args below meth c H locs cells slots Q (F0 m pc ls (.ref (G.2.2 0) :: rest)) := by
  subst hv
  exact gI X I (ci := 10) (C := RX10) (T := TX10) (N := 41) _ (atM_model) rfl inlX10 23 (by decide) hk rfl hdg kk
theorem sM_model_misses {v : Int} : (wM G S).set 0 (G.2.2 0, .inr (10, [.int (iI (S.1 50 0)), .ref (G.2.2 1), .int (iI (S.1 51 0)), .ref (G.2.2 2), .ref (G.2.2 3), .ref (G.2.2 4), .ref (G.2.2 5), .ref (G.2.2 6), .ref (G.2.2 7), .int (iI (S.1 52 0)), .ref (G.2.2 8), .ref (G.2.2 9), .ref (G.2.2 10), .ref (G.2.2 11), .int (iI (S.1 53 0)), .ref (G.2.2 12), .int (iI (S.1 54 0)), .ref (G.2.2 13), .ref (G.2.2 14), .int (iI (S.1 55 0)), .int (iI (S.1 56 0)), .int (iI (S.1 57 0)), .int (iI (S.1 58 0)), .int (iI v), .int (iI (S.1 60 0)), .int (iI (S.1 61 0)), .ref (G.2.2 15), .ref (G.2.2 16), .ref (G.2.2 17), .ref (G.2.2 18), .ref (G.2.2 19), .int (iI (S.1 62 0)), .ref (G.2.2 20), .ref (G.2.2 21), .ref (G.2.2 22), .int (iI (S.1 63 0)), .ref (G.2.2 23), .ref (G.2.2 24), .ref (G.2.2 25), .ref (G.2.2 26), .ref (G.2.2 27)])) = wM G (us S.1 59 v, S.2) := rfl
theorem pM_model_misses (X : CallFix p m c cc nL s args TB own) (I : In (KM G) s H0 H locs S) {idx : Nat} {v : Int} (hk : Cond.fieldLink own idx "NameSeekerModel" "misses" "I" ∈ TB) (hdg : decode cc pc = .ok (.putfield idx, 3)) (kk : ∀ (H1 : Heap) (locs1 : List Loc), In (KM G) s H0 H1 locs1 (us S.1 59 v, S.2) → W p l e R s m args below meth c H1 locs1 cells slots Q (F0 m (pc + 3) ls rest)) : W p l e R s m args below meth c H locs cells slots Q (F0 m pc ls (.int (iI v) :: .ref (G.2.2 0) :: rest)) :=
  pI X I (S1 := (us S.1 59 v, S.2)) (ci := 10) (C := RX10) (T := TX10) (N := 41) _ (atM_model) rfl inlX10 tyX10 tyX10_ok nmX10 23 (by decide) hk rfl (tyX10_ok 23 (by decide)) (Nat.le_of_ble_eq_true rfl) sM_model_misses hdg kk
theorem gM_model_seed (X : CallFix p m c cc nL s args TB own) (I : In (KM G) s H0 H locs S) {idx : Nat} {v : Int} (hv : S.1 60 0 = v) (hk : Cond.fieldLink own idx "NameSeekerModel" "seed" "I" ∈ TB) (hdg : decode cc pc = .ok (.getfield idx, 3)) (kk : W p l e R s m args below meth c H locs cells slots Q (F0 m (pc + 3) ls (.int (iI v) :: rest))) : W p l e R s m args below meth c H locs cells slots Q (F0 m pc ls (.ref (G.2.2 0) :: rest)) := by
  subst hv
  exact gI X I (ci := 10) (C := RX10) (T := TX10) (N := 41) _ (atM_model) rfl inlX10 24 (by decide) hk rfl hdg kk
theorem sM_model_seed {v : Int} : (wM G S).set 0 (G.2.2 0, .inr (10, [.int (iI (S.1 50 0)), .ref (G.2.2 1), .int (iI (S.1 51 0)), .ref (G.2.2 2), .ref (G.2.2 3), .ref (G.2.2 4), .ref (G.2.2 5), .ref (G.2.2 6), .ref (G.2.2 7), .int (iI (S.1 52 0)), .ref (G.2.2 8), .ref (G.2.2 9), .ref (G.2.2 10), .ref (G.2.2 11), .int (iI (S.1 53 0)), .ref (G.2.2 12), .int (iI (S.1 54 0)), .ref (G.2.2 13), .ref (G.2.2 14), .int (iI (S.1 55 0)), .int (iI (S.1 56 0)), .int (iI (S.1 57 0)), .int (iI (S.1 58 0)), .int (iI (S.1 59 0)), .int (iI v), .int (iI (S.1 61 0)), .ref (G.2.2 15), .ref (G.2.2 16), .ref (G.2.2 17), .ref (G.2.2 18), .ref (G.2.2 19), .int (iI (S.1 62 0)), .ref (G.2.2 20), .ref (G.2.2 21), .ref (G.2.2 22), .int (iI (S.1 63 0)), .ref (G.2.2 23), .ref (G.2.2 24), .ref (G.2.2 25), .ref (G.2.2 26), .ref (G.2.2 27)])) = wM G (us S.1 60 v, S.2) := rfl
theorem pM_model_seed (X : CallFix p m c cc nL s args TB own) (I : In (KM G) s H0 H locs S) {idx : Nat} {v : Int} (hk : Cond.fieldLink own idx "NameSeekerModel" "seed" "I" ∈ TB) (hdg : decode cc pc = .ok (.putfield idx, 3)) (kk : ∀ (H1 : Heap) (locs1 : List Loc), In (KM G) s H0 H1 locs1 (us S.1 60 v, S.2) → W p l e R s m args below meth c H1 locs1 cells slots Q (F0 m (pc + 3) ls rest)) : W p l e R s m args below meth c H locs cells slots Q (F0 m pc ls (.int (iI v) :: .ref (G.2.2 0) :: rest)) :=
  pI X I (S1 := (us S.1 60 v, S.2)) (ci := 10) (C := RX10) (T := TX10) (N := 41) _ (atM_model) rfl inlX10 tyX10 tyX10_ok nmX10 24 (by decide) hk rfl (tyX10_ok 24 (by decide)) (Nat.le_of_ble_eq_true rfl) sM_model_seed hdg kk
theorem gM_model_askedMany (X : CallFix p m c cc nL s args TB own) (I : In (KM G) s H0 H locs S) {idx : Nat} {v : Int} (hv : S.1 61 0 = v) (hk : Cond.fieldLink own idx "NameSeekerModel" "askedMany" "I" ∈ TB) (hdg : decode cc pc = .ok (.getfield idx, 3)) (kk : W p l e R s m args below meth c H locs cells slots Q (F0 m (pc + 3) ls (.int (iI v) :: rest))) : W p l e R s m args below meth c H locs cells slots Q (F0 m pc ls (.ref (G.2.2 0) :: rest)) := by
  subst hv
  exact gI X I (ci := 10) (C := RX10) (T := TX10) (N := 41) _ (atM_model) rfl inlX10 25 (by decide) hk rfl hdg kk
theorem sM_model_askedMany {v : Int} : (wM G S).set 0 (G.2.2 0, .inr (10, [.int (iI (S.1 50 0)), .ref (G.2.2 1), .int (iI (S.1 51 0)), .ref (G.2.2 2), .ref (G.2.2 3), .ref (G.2.2 4), .ref (G.2.2 5), .ref (G.2.2 6), .ref (G.2.2 7), .int (iI (S.1 52 0)), .ref (G.2.2 8), .ref (G.2.2 9), .ref (G.2.2 10), .ref (G.2.2 11), .int (iI (S.1 53 0)), .ref (G.2.2 12), .int (iI (S.1 54 0)), .ref (G.2.2 13), .ref (G.2.2 14), .int (iI (S.1 55 0)), .int (iI (S.1 56 0)), .int (iI (S.1 57 0)), .int (iI (S.1 58 0)), .int (iI (S.1 59 0)), .int (iI (S.1 60 0)), .int (iI v), .ref (G.2.2 15), .ref (G.2.2 16), .ref (G.2.2 17), .ref (G.2.2 18), .ref (G.2.2 19), .int (iI (S.1 62 0)), .ref (G.2.2 20), .ref (G.2.2 21), .ref (G.2.2 22), .int (iI (S.1 63 0)), .ref (G.2.2 23), .ref (G.2.2 24), .ref (G.2.2 25), .ref (G.2.2 26), .ref (G.2.2 27)])) = wM G (us S.1 61 v, S.2) := rfl
theorem pM_model_askedMany (X : CallFix p m c cc nL s args TB own) (I : In (KM G) s H0 H locs S) {idx : Nat} {v : Int} (hk : Cond.fieldLink own idx "NameSeekerModel" "askedMany" "I" ∈ TB) (hdg : decode cc pc = .ok (.putfield idx, 3)) (kk : ∀ (H1 : Heap) (locs1 : List Loc), In (KM G) s H0 H1 locs1 (us S.1 61 v, S.2) → W p l e R s m args below meth c H1 locs1 cells slots Q (F0 m (pc + 3) ls rest)) : W p l e R s m args below meth c H locs cells slots Q (F0 m pc ls (.int (iI v) :: .ref (G.2.2 0) :: rest)) :=
  pI X I (S1 := (us S.1 61 v, S.2)) (ci := 10) (C := RX10) (T := TX10) (N := 41) _ (atM_model) rfl inlX10 tyX10 tyX10_ok nmX10 25 (by decide) hk rfl (tyX10_ok 25 (by decide)) (Nat.le_of_ble_eq_true rfl) sM_model_askedMany hdg kk
theorem gM_model_askedCodes (X : CallFix p m c cc nL s args TB own) (I : In (KM G) s H0 H locs S) {idx : Nat} (hk : Cond.fieldLink own idx "NameSeekerModel" "askedCodes" "[J" ∈ TB) (hdg : decode cc pc = .ok (.getfield idx, 3)) (kk : W p l e R s m args below meth c H locs cells slots Q (F0 m (pc + 3) ls (.ref (G.2.2 15) :: rest))) : W p l e R s m args below meth c H locs cells slots Q (F0 m pc ls (.ref (G.2.2 0) :: rest)) := gI X I (ci := 10) (C := RX10) (T := TX10) (N := 41) _ (atM_model) rfl inlX10 26 (by decide) hk rfl hdg kk
theorem gM_model_knownIds (X : CallFix p m c cc nL s args TB own) (I : In (KM G) s H0 H locs S) {idx : Nat} (hk : Cond.fieldLink own idx "NameSeekerModel" "knownIds" "[I" ∈ TB) (hdg : decode cc pc = .ok (.getfield idx, 3)) (kk : W p l e R s m args below meth c H locs cells slots Q (F0 m (pc + 3) ls (.ref (G.2.2 16) :: rest))) : W p l e R s m args below meth c H locs cells slots Q (F0 m pc ls (.ref (G.2.2 0) :: rest)) := gI X I (ci := 10) (C := RX10) (T := TX10) (N := 41) _ (atM_model) rfl inlX10 27 (by decide) hk rfl hdg kk
theorem gM_model_knownCodes (X : CallFix p m c cc nL s args TB own) (I : In (KM G) s H0 H locs S) {idx : Nat} (hk : Cond.fieldLink own idx "NameSeekerModel" "knownCodes" "[J" ∈ TB) (hdg : decode cc pc = .ok (.getfield idx, 3)) (kk : W p l e R s m args below meth c H locs cells slots Q (F0 m (pc + 3) ls (.ref (G.2.2 17) :: rest))) : W p l e R s m args below meth c H locs cells slots Q (F0 m pc ls (.ref (G.2.2 0) :: rest)) := gI X I (ci := 10) (C := RX10) (T := TX10) (N := 41) _ (atM_model) rfl inlX10 28 (by decide) hk rfl hdg kk
theorem gM_model_knownAges (X : CallFix p m c cc nL s args TB own) (I : In (KM G) s H0 H locs S) {idx : Nat} (hk : Cond.fieldLink own idx "NameSeekerModel" "knownAges" "[I" ∈ TB) (hdg : decode cc pc = .ok (.getfield idx, 3)) (kk : W p l e R s m args below meth c H locs cells slots Q (F0 m (pc + 3) ls (.ref (G.2.2 18) :: rest))) : W p l e R s m args below meth c H locs cells slots Q (F0 m pc ls (.ref (G.2.2 0) :: rest)) := gI X I (ci := 10) (C := RX10) (T := TX10) (N := 41) _ (atM_model) rfl inlX10 29 (by decide) hk rfl hdg kk
theorem gM_model_knownScores (X : CallFix p m c cc nL s args TB own) (I : In (KM G) s H0 H locs S) {idx : Nat} (hk : Cond.fieldLink own idx "NameSeekerModel" "knownScores" "[I" ∈ TB) (hdg : decode cc pc = .ok (.getfield idx, 3)) (kk : W p l e R s m args below meth c H locs cells slots Q (F0 m (pc + 3) ls (.ref (G.2.2 19) :: rest))) : W p l e R s m args below meth c H locs cells slots Q (F0 m pc ls (.ref (G.2.2 0) :: rest)) := gI X I (ci := 10) (C := RX10) (T := TX10) (N := 41) _ (atM_model) rfl inlX10 30 (by decide) hk rfl hdg kk
theorem gM_model_triedSize (X : CallFix p m c cc nL s args TB own) (I : In (KM G) s H0 H locs S) {idx : Nat} {v : Int} (hv : S.1 62 0 = v) (hk : Cond.fieldLink own idx "NameSeekerModel" "triedSize" "I" ∈ TB) (hdg : decode cc pc = .ok (.getfield idx, 3)) (kk : W p l e R s m args below meth c H locs cells slots Q (F0 m (pc + 3) ls (.int (iI v) :: rest))) : W p l e R s m args below meth c H locs cells slots Q (F0 m pc ls (.ref (G.2.2 0) :: rest)) := by
  subst hv
  exact gI X I (ci := 10) (C := RX10) (T := TX10) (N := 41) _ (atM_model) rfl inlX10 31 (by decide) hk rfl hdg kk
theorem sM_model_triedSize {v : Int} : (wM G S).set 0 (G.2.2 0, .inr (10, [.int (iI (S.1 50 0)), .ref (G.2.2 1), .int (iI (S.1 51 0)), .ref (G.2.2 2), .ref (G.2.2 3), .ref (G.2.2 4), .ref (G.2.2 5), .ref (G.2.2 6), .ref (G.2.2 7), .int (iI (S.1 52 0)), .ref (G.2.2 8), .ref (G.2.2 9), .ref (G.2.2 10), .ref (G.2.2 11), .int (iI (S.1 53 0)), .ref (G.2.2 12), .int (iI (S.1 54 0)), .ref (G.2.2 13), .ref (G.2.2 14), .int (iI (S.1 55 0)), .int (iI (S.1 56 0)), .int (iI (S.1 57 0)), .int (iI (S.1 58 0)), .int (iI (S.1 59 0)), .int (iI (S.1 60 0)), .int (iI (S.1 61 0)), .ref (G.2.2 15), .ref (G.2.2 16), .ref (G.2.2 17), .ref (G.2.2 18), .ref (G.2.2 19), .int (iI v), .ref (G.2.2 20), .ref (G.2.2 21), .ref (G.2.2 22), .int (iI (S.1 63 0)), .ref (G.2.2 23), .ref (G.2.2 24), .ref (G.2.2 25), .ref (G.2.2 26), .ref (G.2.2 27)])) = wM G (us S.1 62 v, S.2) := rfl
theorem pM_model_triedSize (X : CallFix p m c cc nL s args TB own) (I : In (KM G) s H0 H locs S) {idx : Nat} {v : Int} (hk : Cond.fieldLink own idx "NameSeekerModel" "triedSize" "I" ∈ TB) (hdg : decode cc pc = .ok (.putfield idx, 3)) (kk : ∀ (H1 : Heap) (locs1 : List Loc), In (KM G) s H0 H1 locs1 (us S.1 62 v, S.2) → W p l e R s m args below meth c H1 locs1 cells slots Q (F0 m (pc + 3) ls rest)) : W p l e R s m args below meth c H locs cells slots Q (F0 m pc ls (.int (iI v) :: .ref (G.2.2 0) :: rest)) :=
  pI X I (S1 := (us S.1 62 v, S.2)) (ci := 10) (C := RX10) (T := TX10) (N := 41) _ (atM_model) rfl inlX10 tyX10 tyX10_ok nmX10 31 (by decide) hk rfl (tyX10_ok 31 (by decide)) (Nat.le_of_ble_eq_true rfl) sM_model_triedSize hdg kk
theorem gM_model_tried (X : CallFix p m c cc nL s args TB own) (I : In (KM G) s H0 H locs S) {idx : Nat} (hk : Cond.fieldLink own idx "NameSeekerModel" "tried" "[I" ∈ TB) (hdg : decode cc pc = .ok (.getfield idx, 3)) (kk : W p l e R s m args below meth c H locs cells slots Q (F0 m (pc + 3) ls (.ref (G.2.2 20) :: rest))) : W p l e R s m args below meth c H locs cells slots Q (F0 m pc ls (.ref (G.2.2 0) :: rest)) := gI X I (ci := 10) (C := RX10) (T := TX10) (N := 41) _ (atM_model) rfl inlX10 32 (by decide) hk rfl hdg kk
theorem gM_model_at (X : CallFix p m c cc nL s args TB own) (I : In (KM G) s H0 H locs S) {idx : Nat} (hk : Cond.fieldLink own idx "NameSeekerModel" "at" "[I" ∈ TB) (hdg : decode cc pc = .ok (.getfield idx, 3)) (kk : W p l e R s m args below meth c H locs cells slots Q (F0 m (pc + 3) ls (.ref (G.2.2 21) :: rest))) : W p l e R s m args below meth c H locs cells slots Q (F0 m pc ls (.ref (G.2.2 0) :: rest)) := gI X I (ci := 10) (C := RX10) (T := TX10) (N := 41) _ (atM_model) rfl inlX10 33 (by decide) hk rfl hdg kk
theorem gM_model_bestAt (X : CallFix p m c cc nL s args TB own) (I : In (KM G) s H0 H locs S) {idx : Nat} (hk : Cond.fieldLink own idx "NameSeekerModel" "bestAt" "[I" ∈ TB) (hdg : decode cc pc = .ok (.getfield idx, 3)) (kk : W p l e R s m args below meth c H locs cells slots Q (F0 m (pc + 3) ls (.ref (G.2.2 22) :: rest))) : W p l e R s m args below meth c H locs cells slots Q (F0 m pc ls (.ref (G.2.2 0) :: rest)) := gI X I (ci := 10) (C := RX10) (T := TX10) (N := 41) _ (atM_model) rfl inlX10 34 (by decide) hk rfl hdg kk
theorem gM_model_bestWorth (X : CallFix p m c cc nL s args TB own) (I : In (KM G) s H0 H locs S) {idx : Nat} {v : Int} (hv : S.1 63 0 = v) (hk : Cond.fieldLink own idx "NameSeekerModel" "bestWorth" "I" ∈ TB) (hdg : decode cc pc = .ok (.getfield idx, 3)) (kk : W p l e R s m args below meth c H locs cells slots Q (F0 m (pc + 3) ls (.int (iI v) :: rest))) : W p l e R s m args below meth c H locs cells slots Q (F0 m pc ls (.ref (G.2.2 0) :: rest)) := by
  subst hv
  exact gI X I (ci := 10) (C := RX10) (T := TX10) (N := 41) _ (atM_model) rfl inlX10 35 (by decide) hk rfl hdg kk
theorem sM_model_bestWorth {v : Int} : (wM G S).set 0 (G.2.2 0, .inr (10, [.int (iI (S.1 50 0)), .ref (G.2.2 1), .int (iI (S.1 51 0)), .ref (G.2.2 2), .ref (G.2.2 3), .ref (G.2.2 4), .ref (G.2.2 5), .ref (G.2.2 6), .ref (G.2.2 7), .int (iI (S.1 52 0)), .ref (G.2.2 8), .ref (G.2.2 9), .ref (G.2.2 10), .ref (G.2.2 11), .int (iI (S.1 53 0)), .ref (G.2.2 12), .int (iI (S.1 54 0)), .ref (G.2.2 13), .ref (G.2.2 14), .int (iI (S.1 55 0)), .int (iI (S.1 56 0)), .int (iI (S.1 57 0)), .int (iI (S.1 58 0)), .int (iI (S.1 59 0)), .int (iI (S.1 60 0)), .int (iI (S.1 61 0)), .ref (G.2.2 15), .ref (G.2.2 16), .ref (G.2.2 17), .ref (G.2.2 18), .ref (G.2.2 19), .int (iI (S.1 62 0)), .ref (G.2.2 20), .ref (G.2.2 21), .ref (G.2.2 22), .int (iI v), .ref (G.2.2 23), .ref (G.2.2 24), .ref (G.2.2 25), .ref (G.2.2 26), .ref (G.2.2 27)])) = wM G (us S.1 63 v, S.2) := rfl
theorem pM_model_bestWorth (X : CallFix p m c cc nL s args TB own) (I : In (KM G) s H0 H locs S) {idx : Nat} {v : Int} (hk : Cond.fieldLink own idx "NameSeekerModel" "bestWorth" "I" ∈ TB) (hdg : decode cc pc = .ok (.putfield idx, 3)) (kk : ∀ (H1 : Heap) (locs1 : List Loc), In (KM G) s H0 H1 locs1 (us S.1 63 v, S.2) → W p l e R s m args below meth c H1 locs1 cells slots Q (F0 m (pc + 3) ls rest)) : W p l e R s m args below meth c H locs cells slots Q (F0 m pc ls (.int (iI v) :: .ref (G.2.2 0) :: rest)) :=
  pI X I (S1 := (us S.1 63 v, S.2)) (ci := 10) (C := RX10) (T := TX10) (N := 41) _ (atM_model) rfl inlX10 tyX10 tyX10_ok nmX10 35 (by decide) hk rfl (tyX10_ok 35 (by decide)) (Nat.le_of_ble_eq_true rfl) sM_model_bestWorth hdg kk
theorem gM_model_scores (X : CallFix p m c cc nL s args TB own) (I : In (KM G) s H0 H locs S) {idx : Nat} (hk : Cond.fieldLink own idx "NameSeekerModel" "scores" "[I" ∈ TB) (hdg : decode cc pc = .ok (.getfield idx, 3)) (kk : W p l e R s m args below meth c H locs cells slots Q (F0 m (pc + 3) ls (.ref (G.2.2 23) :: rest))) : W p l e R s m args below meth c H locs cells slots Q (F0 m pc ls (.ref (G.2.2 0) :: rest)) := gI X I (ci := 10) (C := RX10) (T := TX10) (N := 41) _ (atM_model) rfl inlX10 36 (by decide) hk rfl hdg kk
theorem gM_model_firstLetters (X : CallFix p m c cc nL s args TB own) (I : In (KM G) s H0 H locs S) {idx : Nat} (hk : Cond.fieldLink own idx "NameSeekerModel" "firstLetters" "[I" ∈ TB) (hdg : decode cc pc = .ok (.getfield idx, 3)) (kk : W p l e R s m args below meth c H locs cells slots Q (F0 m (pc + 3) ls (.ref (G.2.2 24) :: rest))) : W p l e R s m args below meth c H locs cells slots Q (F0 m pc ls (.ref (G.2.2 0) :: rest)) := gI X I (ci := 10) (C := RX10) (T := TX10) (N := 41) _ (atM_model) rfl inlX10 37 (by decide) hk rfl hdg kk
theorem gM_model_lastLetters (X : CallFix p m c cc nL s args TB own) (I : In (KM G) s H0 H locs S) {idx : Nat} (hk : Cond.fieldLink own idx "NameSeekerModel" "lastLetters" "[I" ∈ TB) (hdg : decode cc pc = .ok (.getfield idx, 3)) (kk : W p l e R s m args below meth c H locs cells slots Q (F0 m (pc + 3) ls (.ref (G.2.2 25) :: rest))) : W p l e R s m args below meth c H locs cells slots Q (F0 m pc ls (.ref (G.2.2 0) :: rest)) := gI X I (ci := 10) (C := RX10) (T := TX10) (N := 41) _ (atM_model) rfl inlX10 38 (by decide) hk rfl hdg kk
theorem gM_model_firstSizes (X : CallFix p m c cc nL s args TB own) (I : In (KM G) s H0 H locs S) {idx : Nat} (hk : Cond.fieldLink own idx "NameSeekerModel" "firstSizes" "[I" ∈ TB) (hdg : decode cc pc = .ok (.getfield idx, 3)) (kk : W p l e R s m args below meth c H locs cells slots Q (F0 m (pc + 3) ls (.ref (G.2.2 26) :: rest))) : W p l e R s m args below meth c H locs cells slots Q (F0 m pc ls (.ref (G.2.2 0) :: rest)) := gI X I (ci := 10) (C := RX10) (T := TX10) (N := 41) _ (atM_model) rfl inlX10 39 (by decide) hk rfl hdg kk
theorem gM_model_firstKinds (X : CallFix p m c cc nL s args TB own) (I : In (KM G) s H0 H locs S) {idx : Nat} (hk : Cond.fieldLink own idx "NameSeekerModel" "firstKinds" "[I" ∈ TB) (hdg : decode cc pc = .ok (.getfield idx, 3)) (kk : W p l e R s m args below meth c H locs cells slots Q (F0 m (pc + 3) ls (.ref (G.2.2 27) :: rest))) : W p l e R s m args below meth c H locs cells slots Q (F0 m pc ls (.ref (G.2.2 0) :: rest)) := gI X I (ci := 10) (C := RX10) (T := TX10) (N := 41) _ (atM_model) rfl inlX10 40 (by decide) hk rfl hdg kk
theorem atM_text_a : (wM G S)[1]? = some (G.2.2 1, .inl (G.2.1 1, 200, .inl (fun i : Nat => iI (S.1 1 i)))) := rfl
theorem aM_text (X : CallFix p m c cc nL s args TB own) (I : In (KM G) s H0 H locs S) {z v : Int} (hv : S.1 1 z = v) (h0 : 0 ≤ z ∧ z < 200) (hdg : decode cc pc = .ok (.iaload, 1)) (kk : W p l e R s m args below meth c H locs cells slots Q (F0 m (pc + 1) ls (.int (iI v) :: rest))) : W p l e R s m args below meth c H locs cells slots Q (F0 m pc ls (.int (iI z) :: .ref (G.2.2 1) :: rest)) := by
  subst hv
  exact aldI X I _ 1 (atM_text_a) rfl h0 (by decide) hdg kk
theorem sM_text_a {z v : Int} : (wM G S).set 1 (G.2.2 1, .inl (G.2.1 1, 200, .inl (fun i : Nat => iI (ua S.1 1 z v 1 i)))) = wM G (ua S.1 1 z v, S.2) := rfl
theorem qM_text (X : CallFix p m c cc nL s args TB own) (I : In (KM G) s H0 H locs S) {z v : Int} (h0 : 0 ≤ z ∧ z < 200) (hdg : decode cc pc = .ok (.iastore, 1)) (kk : ∀ (H1 : Heap) (locs1 : List Loc), In (KM G) s H0 H1 locs1 (ua S.1 1 z v, S.2) → W p l e R s m args below meth c H1 locs1 cells slots Q (F0 m (pc + 1) ls rest)) : W p l e R s m args below meth c H locs cells slots Q (F0 m pc ls (.int (iI v) :: .int (iI z) :: .ref (G.2.2 1) :: rest)) := astI X I (f := S.1) (k := 1) (S1 := (ua S.1 1 z v, S.2)) _ 1 (atM_text_a) rfl h0 (by decide) sM_text_a hdg kk
theorem atM_signs_a : (wM G S)[2]? = some (G.2.2 2, .inl (G.2.1 1, 96, .inl (fun i : Nat => iI (S.1 2 i)))) := rfl
theorem aM_signs (X : CallFix p m c cc nL s args TB own) (I : In (KM G) s H0 H locs S) {z v : Int} (hv : S.1 2 z = v) (h0 : 0 ≤ z ∧ z < 96) (hdg : decode cc pc = .ok (.iaload, 1)) (kk : W p l e R s m args below meth c H locs cells slots Q (F0 m (pc + 1) ls (.int (iI v) :: rest))) : W p l e R s m args below meth c H locs cells slots Q (F0 m pc ls (.int (iI z) :: .ref (G.2.2 2) :: rest)) := by
  subst hv
  exact aldI X I _ 1 (atM_signs_a) rfl h0 (by decide) hdg kk
theorem sM_signs_a {z v : Int} : (wM G S).set 2 (G.2.2 2, .inl (G.2.1 1, 96, .inl (fun i : Nat => iI (ua S.1 2 z v 2 i)))) = wM G (ua S.1 2 z v, S.2) := rfl
theorem qM_signs (X : CallFix p m c cc nL s args TB own) (I : In (KM G) s H0 H locs S) {z v : Int} (h0 : 0 ≤ z ∧ z < 96) (hdg : decode cc pc = .ok (.iastore, 1)) (kk : ∀ (H1 : Heap) (locs1 : List Loc), In (KM G) s H0 H1 locs1 (ua S.1 2 z v, S.2) → W p l e R s m args below meth c H1 locs1 cells slots Q (F0 m (pc + 1) ls rest)) : W p l e R s m args below meth c H locs cells slots Q (F0 m pc ls (.int (iI v) :: .int (iI z) :: .ref (G.2.2 2) :: rest)) := astI X I (f := S.1) (k := 2) (S1 := (ua S.1 2 z v, S.2)) _ 1 (atM_signs_a) rfl h0 (by decide) sM_signs_a hdg kk
theorem atM_sizes_a : (wM G S)[3]? = some (G.2.2 3, .inl (G.2.1 1, 8, .inl (fun i : Nat => iI (S.1 3 i)))) := rfl
theorem aM_sizes (X : CallFix p m c cc nL s args TB own) (I : In (KM G) s H0 H locs S) {z v : Int} (hv : S.1 3 z = v) (h0 : 0 ≤ z ∧ z < 8) (hdg : decode cc pc = .ok (.iaload, 1)) (kk : W p l e R s m args below meth c H locs cells slots Q (F0 m (pc + 1) ls (.int (iI v) :: rest))) : W p l e R s m args below meth c H locs cells slots Q (F0 m pc ls (.int (iI z) :: .ref (G.2.2 3) :: rest)) := by
  subst hv
  exact aldI X I _ 1 (atM_sizes_a) rfl h0 (by decide) hdg kk
theorem sM_sizes_a {z v : Int} : (wM G S).set 3 (G.2.2 3, .inl (G.2.1 1, 8, .inl (fun i : Nat => iI (ua S.1 3 z v 3 i)))) = wM G (ua S.1 3 z v, S.2) := rfl
theorem qM_sizes (X : CallFix p m c cc nL s args TB own) (I : In (KM G) s H0 H locs S) {z v : Int} (h0 : 0 ≤ z ∧ z < 8) (hdg : decode cc pc = .ok (.iastore, 1)) (kk : ∀ (H1 : Heap) (locs1 : List Loc), In (KM G) s H0 H1 locs1 (ua S.1 3 z v, S.2) → W p l e R s m args below meth c H1 locs1 cells slots Q (F0 m (pc + 1) ls rest)) : W p l e R s m args below meth c H locs cells slots Q (F0 m pc ls (.int (iI v) :: .int (iI z) :: .ref (G.2.2 3) :: rest)) := astI X I (f := S.1) (k := 3) (S1 := (ua S.1 3 z v, S.2)) _ 1 (atM_sizes_a) rfl h0 (by decide) sM_sizes_a hdg kk
theorem atM_kinds_a : (wM G S)[4]? = some (G.2.2 4, .inl (G.2.1 1, 8, .inl (fun i : Nat => iI (S.1 4 i)))) := rfl
theorem aM_kinds (X : CallFix p m c cc nL s args TB own) (I : In (KM G) s H0 H locs S) {z v : Int} (hv : S.1 4 z = v) (h0 : 0 ≤ z ∧ z < 8) (hdg : decode cc pc = .ok (.iaload, 1)) (kk : W p l e R s m args below meth c H locs cells slots Q (F0 m (pc + 1) ls (.int (iI v) :: rest))) : W p l e R s m args below meth c H locs cells slots Q (F0 m pc ls (.int (iI z) :: .ref (G.2.2 4) :: rest)) := by
  subst hv
  exact aldI X I _ 1 (atM_kinds_a) rfl h0 (by decide) hdg kk
theorem sM_kinds_a {z v : Int} : (wM G S).set 4 (G.2.2 4, .inl (G.2.1 1, 8, .inl (fun i : Nat => iI (ua S.1 4 z v 4 i)))) = wM G (ua S.1 4 z v, S.2) := rfl
theorem qM_kinds (X : CallFix p m c cc nL s args TB own) (I : In (KM G) s H0 H locs S) {z v : Int} (h0 : 0 ≤ z ∧ z < 8) (hdg : decode cc pc = .ok (.iastore, 1)) (kk : ∀ (H1 : Heap) (locs1 : List Loc), In (KM G) s H0 H1 locs1 (ua S.1 4 z v, S.2) → W p l e R s m args below meth c H1 locs1 cells slots Q (F0 m (pc + 1) ls rest)) : W p l e R s m args below meth c H locs cells slots Q (F0 m pc ls (.int (iI v) :: .int (iI z) :: .ref (G.2.2 4) :: rest)) := astI X I (f := S.1) (k := 4) (S1 := (ua S.1 4 z v, S.2)) _ 1 (atM_kinds_a) rfl h0 (by decide) sM_kinds_a hdg kk
theorem atM_ids_a : (wM G S)[5]? = some (G.2.2 5, .inl (G.2.1 1, 8, .inl (fun i : Nat => iI (S.1 5 i)))) := rfl
theorem aM_ids (X : CallFix p m c cc nL s args TB own) (I : In (KM G) s H0 H locs S) {z v : Int} (hv : S.1 5 z = v) (h0 : 0 ≤ z ∧ z < 8) (hdg : decode cc pc = .ok (.iaload, 1)) (kk : W p l e R s m args below meth c H locs cells slots Q (F0 m (pc + 1) ls (.int (iI v) :: rest))) : W p l e R s m args below meth c H locs cells slots Q (F0 m pc ls (.int (iI z) :: .ref (G.2.2 5) :: rest)) := by
  subst hv
  exact aldI X I _ 1 (atM_ids_a) rfl h0 (by decide) hdg kk
theorem sM_ids_a {z v : Int} : (wM G S).set 5 (G.2.2 5, .inl (G.2.1 1, 8, .inl (fun i : Nat => iI (ua S.1 5 z v 5 i)))) = wM G (ua S.1 5 z v, S.2) := rfl
theorem qM_ids (X : CallFix p m c cc nL s args TB own) (I : In (KM G) s H0 H locs S) {z v : Int} (h0 : 0 ≤ z ∧ z < 8) (hdg : decode cc pc = .ok (.iastore, 1)) (kk : ∀ (H1 : Heap) (locs1 : List Loc), In (KM G) s H0 H1 locs1 (ua S.1 5 z v, S.2) → W p l e R s m args below meth c H1 locs1 cells slots Q (F0 m (pc + 1) ls rest)) : W p l e R s m args below meth c H locs cells slots Q (F0 m pc ls (.int (iI v) :: .int (iI z) :: .ref (G.2.2 5) :: rest)) := astI X I (f := S.1) (k := 5) (S1 := (ua S.1 5 z v, S.2)) _ 1 (atM_ids_a) rfl h0 (by decide) sM_ids_a hdg kk
theorem atM_picks_a : (wM G S)[6]? = some (G.2.2 6, .inl (G.2.1 1, 8, .inl (fun i : Nat => iI (S.1 6 i)))) := rfl
theorem aM_picks (X : CallFix p m c cc nL s args TB own) (I : In (KM G) s H0 H locs S) {z v : Int} (hv : S.1 6 z = v) (h0 : 0 ≤ z ∧ z < 8) (hdg : decode cc pc = .ok (.iaload, 1)) (kk : W p l e R s m args below meth c H locs cells slots Q (F0 m (pc + 1) ls (.int (iI v) :: rest))) : W p l e R s m args below meth c H locs cells slots Q (F0 m pc ls (.int (iI z) :: .ref (G.2.2 6) :: rest)) := by
  subst hv
  exact aldI X I _ 1 (atM_picks_a) rfl h0 (by decide) hdg kk
theorem sM_picks_a {z v : Int} : (wM G S).set 6 (G.2.2 6, .inl (G.2.1 1, 8, .inl (fun i : Nat => iI (ua S.1 6 z v 6 i)))) = wM G (ua S.1 6 z v, S.2) := rfl
theorem qM_picks (X : CallFix p m c cc nL s args TB own) (I : In (KM G) s H0 H locs S) {z v : Int} (h0 : 0 ≤ z ∧ z < 8) (hdg : decode cc pc = .ok (.iastore, 1)) (kk : ∀ (H1 : Heap) (locs1 : List Loc), In (KM G) s H0 H1 locs1 (ua S.1 6 z v, S.2) → W p l e R s m args below meth c H1 locs1 cells slots Q (F0 m (pc + 1) ls rest)) : W p l e R s m args below meth c H locs cells slots Q (F0 m pc ls (.int (iI v) :: .int (iI z) :: .ref (G.2.2 6) :: rest)) := astI X I (f := S.1) (k := 6) (S1 := (ua S.1 6 z v, S.2)) _ 1 (atM_picks_a) rfl h0 (by decide) sM_picks_a hdg kk
theorem atM_worths_a : (wM G S)[7]? = some (G.2.2 7, .inl (G.2.1 1, 3, .inl (fun i : Nat => iI (S.1 7 i)))) := rfl
theorem aM_worths (X : CallFix p m c cc nL s args TB own) (I : In (KM G) s H0 H locs S) {z v : Int} (hv : S.1 7 z = v) (h0 : 0 ≤ z ∧ z < 3) (hdg : decode cc pc = .ok (.iaload, 1)) (kk : W p l e R s m args below meth c H locs cells slots Q (F0 m (pc + 1) ls (.int (iI v) :: rest))) : W p l e R s m args below meth c H locs cells slots Q (F0 m pc ls (.int (iI z) :: .ref (G.2.2 7) :: rest)) := by
  subst hv
  exact aldI X I _ 1 (atM_worths_a) rfl h0 (by decide) hdg kk
theorem sM_worths_a {z v : Int} : (wM G S).set 7 (G.2.2 7, .inl (G.2.1 1, 3, .inl (fun i : Nat => iI (ua S.1 7 z v 7 i)))) = wM G (ua S.1 7 z v, S.2) := rfl
theorem qM_worths (X : CallFix p m c cc nL s args TB own) (I : In (KM G) s H0 H locs S) {z v : Int} (h0 : 0 ≤ z ∧ z < 3) (hdg : decode cc pc = .ok (.iastore, 1)) (kk : ∀ (H1 : Heap) (locs1 : List Loc), In (KM G) s H0 H1 locs1 (ua S.1 7 z v, S.2) → W p l e R s m args below meth c H1 locs1 cells slots Q (F0 m (pc + 1) ls rest)) : W p l e R s m args below meth c H locs cells slots Q (F0 m pc ls (.int (iI v) :: .int (iI z) :: .ref (G.2.2 7) :: rest)) := astI X I (f := S.1) (k := 7) (S1 := (ua S.1 7 z v, S.2)) _ 1 (atM_worths_a) rfl h0 (by decide) sM_worths_a hdg kk
theorem atM_readSigns_a : (wM G S)[8]? = some (G.2.2 8, .inl (G.2.1 1, 96, .inl (fun i : Nat => iI (S.1 8 i)))) := rfl
theorem aM_readSigns (X : CallFix p m c cc nL s args TB own) (I : In (KM G) s H0 H locs S) {z v : Int} (hv : S.1 8 z = v) (h0 : 0 ≤ z ∧ z < 96) (hdg : decode cc pc = .ok (.iaload, 1)) (kk : W p l e R s m args below meth c H locs cells slots Q (F0 m (pc + 1) ls (.int (iI v) :: rest))) : W p l e R s m args below meth c H locs cells slots Q (F0 m pc ls (.int (iI z) :: .ref (G.2.2 8) :: rest)) := by
  subst hv
  exact aldI X I _ 1 (atM_readSigns_a) rfl h0 (by decide) hdg kk
theorem sM_readSigns_a {z v : Int} : (wM G S).set 8 (G.2.2 8, .inl (G.2.1 1, 96, .inl (fun i : Nat => iI (ua S.1 8 z v 8 i)))) = wM G (ua S.1 8 z v, S.2) := rfl
theorem qM_readSigns (X : CallFix p m c cc nL s args TB own) (I : In (KM G) s H0 H locs S) {z v : Int} (h0 : 0 ≤ z ∧ z < 96) (hdg : decode cc pc = .ok (.iastore, 1)) (kk : ∀ (H1 : Heap) (locs1 : List Loc), In (KM G) s H0 H1 locs1 (ua S.1 8 z v, S.2) → W p l e R s m args below meth c H1 locs1 cells slots Q (F0 m (pc + 1) ls rest)) : W p l e R s m args below meth c H locs cells slots Q (F0 m pc ls (.int (iI v) :: .int (iI z) :: .ref (G.2.2 8) :: rest)) := astI X I (f := S.1) (k := 8) (S1 := (ua S.1 8 z v, S.2)) _ 1 (atM_readSigns_a) rfl h0 (by decide) sM_readSigns_a hdg kk
theorem atM_readSizes_a : (wM G S)[9]? = some (G.2.2 9, .inl (G.2.1 1, 8, .inl (fun i : Nat => iI (S.1 9 i)))) := rfl
theorem aM_readSizes (X : CallFix p m c cc nL s args TB own) (I : In (KM G) s H0 H locs S) {z v : Int} (hv : S.1 9 z = v) (h0 : 0 ≤ z ∧ z < 8) (hdg : decode cc pc = .ok (.iaload, 1)) (kk : W p l e R s m args below meth c H locs cells slots Q (F0 m (pc + 1) ls (.int (iI v) :: rest))) : W p l e R s m args below meth c H locs cells slots Q (F0 m pc ls (.int (iI z) :: .ref (G.2.2 9) :: rest)) := by
  subst hv
  exact aldI X I _ 1 (atM_readSizes_a) rfl h0 (by decide) hdg kk
theorem sM_readSizes_a {z v : Int} : (wM G S).set 9 (G.2.2 9, .inl (G.2.1 1, 8, .inl (fun i : Nat => iI (ua S.1 9 z v 9 i)))) = wM G (ua S.1 9 z v, S.2) := rfl
theorem qM_readSizes (X : CallFix p m c cc nL s args TB own) (I : In (KM G) s H0 H locs S) {z v : Int} (h0 : 0 ≤ z ∧ z < 8) (hdg : decode cc pc = .ok (.iastore, 1)) (kk : ∀ (H1 : Heap) (locs1 : List Loc), In (KM G) s H0 H1 locs1 (ua S.1 9 z v, S.2) → W p l e R s m args below meth c H1 locs1 cells slots Q (F0 m (pc + 1) ls rest)) : W p l e R s m args below meth c H locs cells slots Q (F0 m pc ls (.int (iI v) :: .int (iI z) :: .ref (G.2.2 9) :: rest)) := astI X I (f := S.1) (k := 9) (S1 := (ua S.1 9 z v, S.2)) _ 1 (atM_readSizes_a) rfl h0 (by decide) sM_readSizes_a hdg kk
theorem atM_readKinds_a : (wM G S)[10]? = some (G.2.2 10, .inl (G.2.1 1, 8, .inl (fun i : Nat => iI (S.1 10 i)))) := rfl
theorem aM_readKinds (X : CallFix p m c cc nL s args TB own) (I : In (KM G) s H0 H locs S) {z v : Int} (hv : S.1 10 z = v) (h0 : 0 ≤ z ∧ z < 8) (hdg : decode cc pc = .ok (.iaload, 1)) (kk : W p l e R s m args below meth c H locs cells slots Q (F0 m (pc + 1) ls (.int (iI v) :: rest))) : W p l e R s m args below meth c H locs cells slots Q (F0 m pc ls (.int (iI z) :: .ref (G.2.2 10) :: rest)) := by
  subst hv
  exact aldI X I _ 1 (atM_readKinds_a) rfl h0 (by decide) hdg kk
theorem sM_readKinds_a {z v : Int} : (wM G S).set 10 (G.2.2 10, .inl (G.2.1 1, 8, .inl (fun i : Nat => iI (ua S.1 10 z v 10 i)))) = wM G (ua S.1 10 z v, S.2) := rfl
theorem qM_readKinds (X : CallFix p m c cc nL s args TB own) (I : In (KM G) s H0 H locs S) {z v : Int} (h0 : 0 ≤ z ∧ z < 8) (hdg : decode cc pc = .ok (.iastore, 1)) (kk : ∀ (H1 : Heap) (locs1 : List Loc), In (KM G) s H0 H1 locs1 (ua S.1 10 z v, S.2) → W p l e R s m args below meth c H1 locs1 cells slots Q (F0 m (pc + 1) ls rest)) : W p l e R s m args below meth c H locs cells slots Q (F0 m pc ls (.int (iI v) :: .int (iI z) :: .ref (G.2.2 10) :: rest)) := astI X I (f := S.1) (k := 10) (S1 := (ua S.1 10 z v, S.2)) _ 1 (atM_readKinds_a) rfl h0 (by decide) sM_readKinds_a hdg kk
theorem atM_readWorths_a : (wM G S)[11]? = some (G.2.2 11, .inl (G.2.1 1, 3, .inl (fun i : Nat => iI (S.1 11 i)))) := rfl
theorem aM_readWorths (X : CallFix p m c cc nL s args TB own) (I : In (KM G) s H0 H locs S) {z v : Int} (hv : S.1 11 z = v) (h0 : 0 ≤ z ∧ z < 3) (hdg : decode cc pc = .ok (.iaload, 1)) (kk : W p l e R s m args below meth c H locs cells slots Q (F0 m (pc + 1) ls (.int (iI v) :: rest))) : W p l e R s m args below meth c H locs cells slots Q (F0 m pc ls (.int (iI z) :: .ref (G.2.2 11) :: rest)) := by
  subst hv
  exact aldI X I _ 1 (atM_readWorths_a) rfl h0 (by decide) hdg kk
theorem sM_readWorths_a {z v : Int} : (wM G S).set 11 (G.2.2 11, .inl (G.2.1 1, 3, .inl (fun i : Nat => iI (ua S.1 11 z v 11 i)))) = wM G (ua S.1 11 z v, S.2) := rfl
theorem qM_readWorths (X : CallFix p m c cc nL s args TB own) (I : In (KM G) s H0 H locs S) {z v : Int} (h0 : 0 ≤ z ∧ z < 3) (hdg : decode cc pc = .ok (.iastore, 1)) (kk : ∀ (H1 : Heap) (locs1 : List Loc), In (KM G) s H0 H1 locs1 (ua S.1 11 z v, S.2) → W p l e R s m args below meth c H1 locs1 cells slots Q (F0 m (pc + 1) ls rest)) : W p l e R s m args below meth c H locs cells slots Q (F0 m pc ls (.int (iI v) :: .int (iI z) :: .ref (G.2.2 11) :: rest)) := astI X I (f := S.1) (k := 11) (S1 := (ua S.1 11 z v, S.2)) _ 1 (atM_readWorths_a) rfl h0 (by decide) sM_readWorths_a hdg kk
theorem atM_wordRow_a : (wM G S)[12]? = some (G.2.2 12, .inl (G.2.1 1, 6, .inl (fun i : Nat => iI (S.1 12 i)))) := rfl
theorem aM_wordRow (X : CallFix p m c cc nL s args TB own) (I : In (KM G) s H0 H locs S) {z v : Int} (hv : S.1 12 z = v) (h0 : 0 ≤ z ∧ z < 6) (hdg : decode cc pc = .ok (.iaload, 1)) (kk : W p l e R s m args below meth c H locs cells slots Q (F0 m (pc + 1) ls (.int (iI v) :: rest))) : W p l e R s m args below meth c H locs cells slots Q (F0 m pc ls (.int (iI z) :: .ref (G.2.2 12) :: rest)) := by
  subst hv
  exact aldI X I _ 1 (atM_wordRow_a) rfl h0 (by decide) hdg kk
theorem sM_wordRow_a {z v : Int} : (wM G S).set 12 (G.2.2 12, .inl (G.2.1 1, 6, .inl (fun i : Nat => iI (ua S.1 12 z v 12 i)))) = wM G (ua S.1 12 z v, S.2) := rfl
theorem qM_wordRow (X : CallFix p m c cc nL s args TB own) (I : In (KM G) s H0 H locs S) {z v : Int} (h0 : 0 ≤ z ∧ z < 6) (hdg : decode cc pc = .ok (.iastore, 1)) (kk : ∀ (H1 : Heap) (locs1 : List Loc), In (KM G) s H0 H1 locs1 (ua S.1 12 z v, S.2) → W p l e R s m args below meth c H1 locs1 cells slots Q (F0 m (pc + 1) ls rest)) : W p l e R s m args below meth c H locs cells slots Q (F0 m pc ls (.int (iI v) :: .int (iI z) :: .ref (G.2.2 12) :: rest)) := astI X I (f := S.1) (k := 12) (S1 := (ua S.1 12 z v, S.2)) _ 1 (atM_wordRow_a) rfl h0 (by decide) sM_wordRow_a hdg kk
theorem atM_keptRows_a : (wM G S)[13]? = some (G.2.2 13, .inl (G.2.1 1, 12, .inl (fun i : Nat => iI (S.1 13 i)))) := rfl
theorem aM_keptRows (X : CallFix p m c cc nL s args TB own) (I : In (KM G) s H0 H locs S) {z v : Int} (hv : S.1 13 z = v) (h0 : 0 ≤ z ∧ z < 12) (hdg : decode cc pc = .ok (.iaload, 1)) (kk : W p l e R s m args below meth c H locs cells slots Q (F0 m (pc + 1) ls (.int (iI v) :: rest))) : W p l e R s m args below meth c H locs cells slots Q (F0 m pc ls (.int (iI z) :: .ref (G.2.2 13) :: rest)) := by
  subst hv
  exact aldI X I _ 1 (atM_keptRows_a) rfl h0 (by decide) hdg kk
theorem sM_keptRows_a {z v : Int} : (wM G S).set 13 (G.2.2 13, .inl (G.2.1 1, 12, .inl (fun i : Nat => iI (ua S.1 13 z v 13 i)))) = wM G (ua S.1 13 z v, S.2) := rfl
theorem qM_keptRows (X : CallFix p m c cc nL s args TB own) (I : In (KM G) s H0 H locs S) {z v : Int} (h0 : 0 ≤ z ∧ z < 12) (hdg : decode cc pc = .ok (.iastore, 1)) (kk : ∀ (H1 : Heap) (locs1 : List Loc), In (KM G) s H0 H1 locs1 (ua S.1 13 z v, S.2) → W p l e R s m args below meth c H1 locs1 cells slots Q (F0 m (pc + 1) ls rest)) : W p l e R s m args below meth c H locs cells slots Q (F0 m pc ls (.int (iI v) :: .int (iI z) :: .ref (G.2.2 13) :: rest)) := astI X I (f := S.1) (k := 13) (S1 := (ua S.1 13 z v, S.2)) _ 1 (atM_keptRows_a) rfl h0 (by decide) sM_keptRows_a hdg kk
theorem atM_keptSizes_a : (wM G S)[14]? = some (G.2.2 14, .inl (G.2.1 1, 2, .inl (fun i : Nat => iI (S.1 14 i)))) := rfl
theorem aM_keptSizes (X : CallFix p m c cc nL s args TB own) (I : In (KM G) s H0 H locs S) {z v : Int} (hv : S.1 14 z = v) (h0 : 0 ≤ z ∧ z < 2) (hdg : decode cc pc = .ok (.iaload, 1)) (kk : W p l e R s m args below meth c H locs cells slots Q (F0 m (pc + 1) ls (.int (iI v) :: rest))) : W p l e R s m args below meth c H locs cells slots Q (F0 m pc ls (.int (iI z) :: .ref (G.2.2 14) :: rest)) := by
  subst hv
  exact aldI X I _ 1 (atM_keptSizes_a) rfl h0 (by decide) hdg kk
theorem sM_keptSizes_a {z v : Int} : (wM G S).set 14 (G.2.2 14, .inl (G.2.1 1, 2, .inl (fun i : Nat => iI (ua S.1 14 z v 14 i)))) = wM G (ua S.1 14 z v, S.2) := rfl
theorem qM_keptSizes (X : CallFix p m c cc nL s args TB own) (I : In (KM G) s H0 H locs S) {z v : Int} (h0 : 0 ≤ z ∧ z < 2) (hdg : decode cc pc = .ok (.iastore, 1)) (kk : ∀ (H1 : Heap) (locs1 : List Loc), In (KM G) s H0 H1 locs1 (ua S.1 14 z v, S.2) → W p l e R s m args below meth c H1 locs1 cells slots Q (F0 m (pc + 1) ls rest)) : W p l e R s m args below meth c H locs cells slots Q (F0 m pc ls (.int (iI v) :: .int (iI z) :: .ref (G.2.2 14) :: rest)) := astI X I (f := S.1) (k := 14) (S1 := (ua S.1 14 z v, S.2)) _ 1 (atM_keptSizes_a) rfl h0 (by decide) sM_keptSizes_a hdg kk
theorem atM_askedCodes_a : (wM G S)[15]? = some (G.2.2 15, .inl (G.2.1 2, 6, .inr (.inl (fun i : Nat => lI (S.1 15 i))))) := rfl
theorem aM_askedCodes (X : CallFix p m c cc nL s args TB own) (I : In (KM G) s H0 H locs S) {z v : Int} (hv : S.1 15 z = v) (h0 : 0 ≤ z ∧ z < 6) (hdg : decode cc pc = .ok (.laload, 1)) (kk : W p l e R s m args below meth c H locs cells slots Q (F0 m (pc + 1) ls (.long (lI v) :: rest))) : W p l e R s m args below meth c H locs cells slots Q (F0 m pc ls (.int (iI z) :: .ref (G.2.2 15) :: rest)) := by
  subst hv
  exact aldL X I _ 2 (atM_askedCodes_a) rfl h0 (by decide) hdg kk
theorem sM_askedCodes_a {z v : Int} : (wM G S).set 15 (G.2.2 15, .inl (G.2.1 2, 6, .inr (.inl (fun i : Nat => lI (ua S.1 15 z v 15 i))))) = wM G (ua S.1 15 z v, S.2) := rfl
theorem qM_askedCodes (X : CallFix p m c cc nL s args TB own) (I : In (KM G) s H0 H locs S) {z v : Int} (h0 : 0 ≤ z ∧ z < 6) (hdg : decode cc pc = .ok (.lastore, 1)) (kk : ∀ (H1 : Heap) (locs1 : List Loc), In (KM G) s H0 H1 locs1 (ua S.1 15 z v, S.2) → W p l e R s m args below meth c H1 locs1 cells slots Q (F0 m (pc + 1) ls rest)) : W p l e R s m args below meth c H locs cells slots Q (F0 m pc ls (.long (lI v) :: .int (iI z) :: .ref (G.2.2 15) :: rest)) := astL X I (f := S.1) (k := 15) (S1 := (ua S.1 15 z v, S.2)) _ 2 (atM_askedCodes_a) rfl h0 (by decide) sM_askedCodes_a hdg kk
theorem atM_knownIds_a : (wM G S)[16]? = some (G.2.2 16, .inl (G.2.1 1, 32, .inl (fun i : Nat => iI (S.1 16 i)))) := rfl
theorem aM_knownIds (X : CallFix p m c cc nL s args TB own) (I : In (KM G) s H0 H locs S) {z v : Int} (hv : S.1 16 z = v) (h0 : 0 ≤ z ∧ z < 32) (hdg : decode cc pc = .ok (.iaload, 1)) (kk : W p l e R s m args below meth c H locs cells slots Q (F0 m (pc + 1) ls (.int (iI v) :: rest))) : W p l e R s m args below meth c H locs cells slots Q (F0 m pc ls (.int (iI z) :: .ref (G.2.2 16) :: rest)) := by
  subst hv
  exact aldI X I _ 1 (atM_knownIds_a) rfl h0 (by decide) hdg kk
theorem sM_knownIds_a {z v : Int} : (wM G S).set 16 (G.2.2 16, .inl (G.2.1 1, 32, .inl (fun i : Nat => iI (ua S.1 16 z v 16 i)))) = wM G (ua S.1 16 z v, S.2) := rfl
theorem qM_knownIds (X : CallFix p m c cc nL s args TB own) (I : In (KM G) s H0 H locs S) {z v : Int} (h0 : 0 ≤ z ∧ z < 32) (hdg : decode cc pc = .ok (.iastore, 1)) (kk : ∀ (H1 : Heap) (locs1 : List Loc), In (KM G) s H0 H1 locs1 (ua S.1 16 z v, S.2) → W p l e R s m args below meth c H1 locs1 cells slots Q (F0 m (pc + 1) ls rest)) : W p l e R s m args below meth c H locs cells slots Q (F0 m pc ls (.int (iI v) :: .int (iI z) :: .ref (G.2.2 16) :: rest)) := astI X I (f := S.1) (k := 16) (S1 := (ua S.1 16 z v, S.2)) _ 1 (atM_knownIds_a) rfl h0 (by decide) sM_knownIds_a hdg kk
theorem atM_knownCodes_a : (wM G S)[17]? = some (G.2.2 17, .inl (G.2.1 2, 32, .inr (.inl (fun i : Nat => lI (S.1 17 i))))) := rfl
theorem aM_knownCodes (X : CallFix p m c cc nL s args TB own) (I : In (KM G) s H0 H locs S) {z v : Int} (hv : S.1 17 z = v) (h0 : 0 ≤ z ∧ z < 32) (hdg : decode cc pc = .ok (.laload, 1)) (kk : W p l e R s m args below meth c H locs cells slots Q (F0 m (pc + 1) ls (.long (lI v) :: rest))) : W p l e R s m args below meth c H locs cells slots Q (F0 m pc ls (.int (iI z) :: .ref (G.2.2 17) :: rest)) := by
  subst hv
  exact aldL X I _ 2 (atM_knownCodes_a) rfl h0 (by decide) hdg kk
theorem sM_knownCodes_a {z v : Int} : (wM G S).set 17 (G.2.2 17, .inl (G.2.1 2, 32, .inr (.inl (fun i : Nat => lI (ua S.1 17 z v 17 i))))) = wM G (ua S.1 17 z v, S.2) := rfl
theorem qM_knownCodes (X : CallFix p m c cc nL s args TB own) (I : In (KM G) s H0 H locs S) {z v : Int} (h0 : 0 ≤ z ∧ z < 32) (hdg : decode cc pc = .ok (.lastore, 1)) (kk : ∀ (H1 : Heap) (locs1 : List Loc), In (KM G) s H0 H1 locs1 (ua S.1 17 z v, S.2) → W p l e R s m args below meth c H1 locs1 cells slots Q (F0 m (pc + 1) ls rest)) : W p l e R s m args below meth c H locs cells slots Q (F0 m pc ls (.long (lI v) :: .int (iI z) :: .ref (G.2.2 17) :: rest)) := astL X I (f := S.1) (k := 17) (S1 := (ua S.1 17 z v, S.2)) _ 2 (atM_knownCodes_a) rfl h0 (by decide) sM_knownCodes_a hdg kk
theorem atM_knownAges_a : (wM G S)[18]? = some (G.2.2 18, .inl (G.2.1 1, 32, .inl (fun i : Nat => iI (S.1 18 i)))) := rfl
theorem aM_knownAges (X : CallFix p m c cc nL s args TB own) (I : In (KM G) s H0 H locs S) {z v : Int} (hv : S.1 18 z = v) (h0 : 0 ≤ z ∧ z < 32) (hdg : decode cc pc = .ok (.iaload, 1)) (kk : W p l e R s m args below meth c H locs cells slots Q (F0 m (pc + 1) ls (.int (iI v) :: rest))) : W p l e R s m args below meth c H locs cells slots Q (F0 m pc ls (.int (iI z) :: .ref (G.2.2 18) :: rest)) := by
  subst hv
  exact aldI X I _ 1 (atM_knownAges_a) rfl h0 (by decide) hdg kk
theorem sM_knownAges_a {z v : Int} : (wM G S).set 18 (G.2.2 18, .inl (G.2.1 1, 32, .inl (fun i : Nat => iI (ua S.1 18 z v 18 i)))) = wM G (ua S.1 18 z v, S.2) := rfl
theorem qM_knownAges (X : CallFix p m c cc nL s args TB own) (I : In (KM G) s H0 H locs S) {z v : Int} (h0 : 0 ≤ z ∧ z < 32) (hdg : decode cc pc = .ok (.iastore, 1)) (kk : ∀ (H1 : Heap) (locs1 : List Loc), In (KM G) s H0 H1 locs1 (ua S.1 18 z v, S.2) → W p l e R s m args below meth c H1 locs1 cells slots Q (F0 m (pc + 1) ls rest)) : W p l e R s m args below meth c H locs cells slots Q (F0 m pc ls (.int (iI v) :: .int (iI z) :: .ref (G.2.2 18) :: rest)) := astI X I (f := S.1) (k := 18) (S1 := (ua S.1 18 z v, S.2)) _ 1 (atM_knownAges_a) rfl h0 (by decide) sM_knownAges_a hdg kk
theorem atM_knownScores_a : (wM G S)[19]? = some (G.2.2 19, .inl (G.2.1 1, 32, .inl (fun i : Nat => iI (S.1 19 i)))) := rfl
theorem aM_knownScores (X : CallFix p m c cc nL s args TB own) (I : In (KM G) s H0 H locs S) {z v : Int} (hv : S.1 19 z = v) (h0 : 0 ≤ z ∧ z < 32) (hdg : decode cc pc = .ok (.iaload, 1)) (kk : W p l e R s m args below meth c H locs cells slots Q (F0 m (pc + 1) ls (.int (iI v) :: rest))) : W p l e R s m args below meth c H locs cells slots Q (F0 m pc ls (.int (iI z) :: .ref (G.2.2 19) :: rest)) := by
  subst hv
  exact aldI X I _ 1 (atM_knownScores_a) rfl h0 (by decide) hdg kk
theorem sM_knownScores_a {z v : Int} : (wM G S).set 19 (G.2.2 19, .inl (G.2.1 1, 32, .inl (fun i : Nat => iI (ua S.1 19 z v 19 i)))) = wM G (ua S.1 19 z v, S.2) := rfl
theorem qM_knownScores (X : CallFix p m c cc nL s args TB own) (I : In (KM G) s H0 H locs S) {z v : Int} (h0 : 0 ≤ z ∧ z < 32) (hdg : decode cc pc = .ok (.iastore, 1)) (kk : ∀ (H1 : Heap) (locs1 : List Loc), In (KM G) s H0 H1 locs1 (ua S.1 19 z v, S.2) → W p l e R s m args below meth c H1 locs1 cells slots Q (F0 m (pc + 1) ls rest)) : W p l e R s m args below meth c H locs cells slots Q (F0 m pc ls (.int (iI v) :: .int (iI z) :: .ref (G.2.2 19) :: rest)) := astI X I (f := S.1) (k := 19) (S1 := (ua S.1 19 z v, S.2)) _ 1 (atM_knownScores_a) rfl h0 (by decide) sM_knownScores_a hdg kk
theorem atM_tried_a : (wM G S)[20]? = some (G.2.2 20, .inl (G.2.1 1, 6, .inl (fun i : Nat => iI (S.1 20 i)))) := rfl
theorem aM_tried (X : CallFix p m c cc nL s args TB own) (I : In (KM G) s H0 H locs S) {z v : Int} (hv : S.1 20 z = v) (h0 : 0 ≤ z ∧ z < 6) (hdg : decode cc pc = .ok (.iaload, 1)) (kk : W p l e R s m args below meth c H locs cells slots Q (F0 m (pc + 1) ls (.int (iI v) :: rest))) : W p l e R s m args below meth c H locs cells slots Q (F0 m pc ls (.int (iI z) :: .ref (G.2.2 20) :: rest)) := by
  subst hv
  exact aldI X I _ 1 (atM_tried_a) rfl h0 (by decide) hdg kk
theorem sM_tried_a {z v : Int} : (wM G S).set 20 (G.2.2 20, .inl (G.2.1 1, 6, .inl (fun i : Nat => iI (ua S.1 20 z v 20 i)))) = wM G (ua S.1 20 z v, S.2) := rfl
theorem qM_tried (X : CallFix p m c cc nL s args TB own) (I : In (KM G) s H0 H locs S) {z v : Int} (h0 : 0 ≤ z ∧ z < 6) (hdg : decode cc pc = .ok (.iastore, 1)) (kk : ∀ (H1 : Heap) (locs1 : List Loc), In (KM G) s H0 H1 locs1 (ua S.1 20 z v, S.2) → W p l e R s m args below meth c H1 locs1 cells slots Q (F0 m (pc + 1) ls rest)) : W p l e R s m args below meth c H locs cells slots Q (F0 m pc ls (.int (iI v) :: .int (iI z) :: .ref (G.2.2 20) :: rest)) := astI X I (f := S.1) (k := 20) (S1 := (ua S.1 20 z v, S.2)) _ 1 (atM_tried_a) rfl h0 (by decide) sM_tried_a hdg kk
theorem atM_at_a : (wM G S)[21]? = some (G.2.2 21, .inl (G.2.1 1, 6, .inl (fun i : Nat => iI (S.1 21 i)))) := rfl
theorem aM_at (X : CallFix p m c cc nL s args TB own) (I : In (KM G) s H0 H locs S) {z v : Int} (hv : S.1 21 z = v) (h0 : 0 ≤ z ∧ z < 6) (hdg : decode cc pc = .ok (.iaload, 1)) (kk : W p l e R s m args below meth c H locs cells slots Q (F0 m (pc + 1) ls (.int (iI v) :: rest))) : W p l e R s m args below meth c H locs cells slots Q (F0 m pc ls (.int (iI z) :: .ref (G.2.2 21) :: rest)) := by
  subst hv
  exact aldI X I _ 1 (atM_at_a) rfl h0 (by decide) hdg kk
theorem sM_at_a {z v : Int} : (wM G S).set 21 (G.2.2 21, .inl (G.2.1 1, 6, .inl (fun i : Nat => iI (ua S.1 21 z v 21 i)))) = wM G (ua S.1 21 z v, S.2) := rfl
theorem qM_at (X : CallFix p m c cc nL s args TB own) (I : In (KM G) s H0 H locs S) {z v : Int} (h0 : 0 ≤ z ∧ z < 6) (hdg : decode cc pc = .ok (.iastore, 1)) (kk : ∀ (H1 : Heap) (locs1 : List Loc), In (KM G) s H0 H1 locs1 (ua S.1 21 z v, S.2) → W p l e R s m args below meth c H1 locs1 cells slots Q (F0 m (pc + 1) ls rest)) : W p l e R s m args below meth c H locs cells slots Q (F0 m pc ls (.int (iI v) :: .int (iI z) :: .ref (G.2.2 21) :: rest)) := astI X I (f := S.1) (k := 21) (S1 := (ua S.1 21 z v, S.2)) _ 1 (atM_at_a) rfl h0 (by decide) sM_at_a hdg kk
theorem atM_bestAt_a : (wM G S)[22]? = some (G.2.2 22, .inl (G.2.1 1, 6, .inl (fun i : Nat => iI (S.1 22 i)))) := rfl
theorem aM_bestAt (X : CallFix p m c cc nL s args TB own) (I : In (KM G) s H0 H locs S) {z v : Int} (hv : S.1 22 z = v) (h0 : 0 ≤ z ∧ z < 6) (hdg : decode cc pc = .ok (.iaload, 1)) (kk : W p l e R s m args below meth c H locs cells slots Q (F0 m (pc + 1) ls (.int (iI v) :: rest))) : W p l e R s m args below meth c H locs cells slots Q (F0 m pc ls (.int (iI z) :: .ref (G.2.2 22) :: rest)) := by
  subst hv
  exact aldI X I _ 1 (atM_bestAt_a) rfl h0 (by decide) hdg kk
theorem sM_bestAt_a {z v : Int} : (wM G S).set 22 (G.2.2 22, .inl (G.2.1 1, 6, .inl (fun i : Nat => iI (ua S.1 22 z v 22 i)))) = wM G (ua S.1 22 z v, S.2) := rfl
theorem qM_bestAt (X : CallFix p m c cc nL s args TB own) (I : In (KM G) s H0 H locs S) {z v : Int} (h0 : 0 ≤ z ∧ z < 6) (hdg : decode cc pc = .ok (.iastore, 1)) (kk : ∀ (H1 : Heap) (locs1 : List Loc), In (KM G) s H0 H1 locs1 (ua S.1 22 z v, S.2) → W p l e R s m args below meth c H1 locs1 cells slots Q (F0 m (pc + 1) ls rest)) : W p l e R s m args below meth c H locs cells slots Q (F0 m pc ls (.int (iI v) :: .int (iI z) :: .ref (G.2.2 22) :: rest)) := astI X I (f := S.1) (k := 22) (S1 := (ua S.1 22 z v, S.2)) _ 1 (atM_bestAt_a) rfl h0 (by decide) sM_bestAt_a hdg kk
theorem atM_scores_a : (wM G S)[23]? = some (G.2.2 23, .inl (G.2.1 1, 8, .inl (fun i : Nat => iI (S.1 23 i)))) := rfl
theorem aM_scores (X : CallFix p m c cc nL s args TB own) (I : In (KM G) s H0 H locs S) {z v : Int} (hv : S.1 23 z = v) (h0 : 0 ≤ z ∧ z < 8) (hdg : decode cc pc = .ok (.iaload, 1)) (kk : W p l e R s m args below meth c H locs cells slots Q (F0 m (pc + 1) ls (.int (iI v) :: rest))) : W p l e R s m args below meth c H locs cells slots Q (F0 m pc ls (.int (iI z) :: .ref (G.2.2 23) :: rest)) := by
  subst hv
  exact aldI X I _ 1 (atM_scores_a) rfl h0 (by decide) hdg kk
theorem sM_scores_a {z v : Int} : (wM G S).set 23 (G.2.2 23, .inl (G.2.1 1, 8, .inl (fun i : Nat => iI (ua S.1 23 z v 23 i)))) = wM G (ua S.1 23 z v, S.2) := rfl
theorem qM_scores (X : CallFix p m c cc nL s args TB own) (I : In (KM G) s H0 H locs S) {z v : Int} (h0 : 0 ≤ z ∧ z < 8) (hdg : decode cc pc = .ok (.iastore, 1)) (kk : ∀ (H1 : Heap) (locs1 : List Loc), In (KM G) s H0 H1 locs1 (ua S.1 23 z v, S.2) → W p l e R s m args below meth c H1 locs1 cells slots Q (F0 m (pc + 1) ls rest)) : W p l e R s m args below meth c H locs cells slots Q (F0 m pc ls (.int (iI v) :: .int (iI z) :: .ref (G.2.2 23) :: rest)) := astI X I (f := S.1) (k := 23) (S1 := (ua S.1 23 z v, S.2)) _ 1 (atM_scores_a) rfl h0 (by decide) sM_scores_a hdg kk
theorem atM_firstLetters_a : (wM G S)[24]? = some (G.2.2 24, .inl (G.2.1 1, 26, .inl (fun i : Nat => iI (S.1 24 i)))) := rfl
theorem aM_firstLetters (X : CallFix p m c cc nL s args TB own) (I : In (KM G) s H0 H locs S) {z v : Int} (hv : S.1 24 z = v) (h0 : 0 ≤ z ∧ z < 26) (hdg : decode cc pc = .ok (.iaload, 1)) (kk : W p l e R s m args below meth c H locs cells slots Q (F0 m (pc + 1) ls (.int (iI v) :: rest))) : W p l e R s m args below meth c H locs cells slots Q (F0 m pc ls (.int (iI z) :: .ref (G.2.2 24) :: rest)) := by
  subst hv
  exact aldI X I _ 1 (atM_firstLetters_a) rfl h0 (by decide) hdg kk
theorem sM_firstLetters_a {z v : Int} : (wM G S).set 24 (G.2.2 24, .inl (G.2.1 1, 26, .inl (fun i : Nat => iI (ua S.1 24 z v 24 i)))) = wM G (ua S.1 24 z v, S.2) := rfl
theorem qM_firstLetters (X : CallFix p m c cc nL s args TB own) (I : In (KM G) s H0 H locs S) {z v : Int} (h0 : 0 ≤ z ∧ z < 26) (hdg : decode cc pc = .ok (.iastore, 1)) (kk : ∀ (H1 : Heap) (locs1 : List Loc), In (KM G) s H0 H1 locs1 (ua S.1 24 z v, S.2) → W p l e R s m args below meth c H1 locs1 cells slots Q (F0 m (pc + 1) ls rest)) : W p l e R s m args below meth c H locs cells slots Q (F0 m pc ls (.int (iI v) :: .int (iI z) :: .ref (G.2.2 24) :: rest)) := astI X I (f := S.1) (k := 24) (S1 := (ua S.1 24 z v, S.2)) _ 1 (atM_firstLetters_a) rfl h0 (by decide) sM_firstLetters_a hdg kk
theorem atM_lastLetters_a : (wM G S)[25]? = some (G.2.2 25, .inl (G.2.1 1, 21, .inl (fun i : Nat => iI (S.1 25 i)))) := rfl
theorem aM_lastLetters (X : CallFix p m c cc nL s args TB own) (I : In (KM G) s H0 H locs S) {z v : Int} (hv : S.1 25 z = v) (h0 : 0 ≤ z ∧ z < 21) (hdg : decode cc pc = .ok (.iaload, 1)) (kk : W p l e R s m args below meth c H locs cells slots Q (F0 m (pc + 1) ls (.int (iI v) :: rest))) : W p l e R s m args below meth c H locs cells slots Q (F0 m pc ls (.int (iI z) :: .ref (G.2.2 25) :: rest)) := by
  subst hv
  exact aldI X I _ 1 (atM_lastLetters_a) rfl h0 (by decide) hdg kk
theorem sM_lastLetters_a {z v : Int} : (wM G S).set 25 (G.2.2 25, .inl (G.2.1 1, 21, .inl (fun i : Nat => iI (ua S.1 25 z v 25 i)))) = wM G (ua S.1 25 z v, S.2) := rfl
theorem qM_lastLetters (X : CallFix p m c cc nL s args TB own) (I : In (KM G) s H0 H locs S) {z v : Int} (h0 : 0 ≤ z ∧ z < 21) (hdg : decode cc pc = .ok (.iastore, 1)) (kk : ∀ (H1 : Heap) (locs1 : List Loc), In (KM G) s H0 H1 locs1 (ua S.1 25 z v, S.2) → W p l e R s m args below meth c H1 locs1 cells slots Q (F0 m (pc + 1) ls rest)) : W p l e R s m args below meth c H locs cells slots Q (F0 m pc ls (.int (iI v) :: .int (iI z) :: .ref (G.2.2 25) :: rest)) := astI X I (f := S.1) (k := 25) (S1 := (ua S.1 25 z v, S.2)) _ 1 (atM_lastLetters_a) rfl h0 (by decide) sM_lastLetters_a hdg kk
theorem atM_firstSizes_a : (wM G S)[26]? = some (G.2.2 26, .inl (G.2.1 1, 6, .inl (fun i : Nat => iI (S.1 26 i)))) := rfl
theorem aM_firstSizes (X : CallFix p m c cc nL s args TB own) (I : In (KM G) s H0 H locs S) {z v : Int} (hv : S.1 26 z = v) (h0 : 0 ≤ z ∧ z < 6) (hdg : decode cc pc = .ok (.iaload, 1)) (kk : W p l e R s m args below meth c H locs cells slots Q (F0 m (pc + 1) ls (.int (iI v) :: rest))) : W p l e R s m args below meth c H locs cells slots Q (F0 m pc ls (.int (iI z) :: .ref (G.2.2 26) :: rest)) := by
  subst hv
  exact aldI X I _ 1 (atM_firstSizes_a) rfl h0 (by decide) hdg kk
theorem sM_firstSizes_a {z v : Int} : (wM G S).set 26 (G.2.2 26, .inl (G.2.1 1, 6, .inl (fun i : Nat => iI (ua S.1 26 z v 26 i)))) = wM G (ua S.1 26 z v, S.2) := rfl
theorem qM_firstSizes (X : CallFix p m c cc nL s args TB own) (I : In (KM G) s H0 H locs S) {z v : Int} (h0 : 0 ≤ z ∧ z < 6) (hdg : decode cc pc = .ok (.iastore, 1)) (kk : ∀ (H1 : Heap) (locs1 : List Loc), In (KM G) s H0 H1 locs1 (ua S.1 26 z v, S.2) → W p l e R s m args below meth c H1 locs1 cells slots Q (F0 m (pc + 1) ls rest)) : W p l e R s m args below meth c H locs cells slots Q (F0 m pc ls (.int (iI v) :: .int (iI z) :: .ref (G.2.2 26) :: rest)) := astI X I (f := S.1) (k := 26) (S1 := (ua S.1 26 z v, S.2)) _ 1 (atM_firstSizes_a) rfl h0 (by decide) sM_firstSizes_a hdg kk
theorem atM_firstKinds_a : (wM G S)[27]? = some (G.2.2 27, .inl (G.2.1 1, 6, .inl (fun i : Nat => iI (S.1 27 i)))) := rfl
theorem aM_firstKinds (X : CallFix p m c cc nL s args TB own) (I : In (KM G) s H0 H locs S) {z v : Int} (hv : S.1 27 z = v) (h0 : 0 ≤ z ∧ z < 6) (hdg : decode cc pc = .ok (.iaload, 1)) (kk : W p l e R s m args below meth c H locs cells slots Q (F0 m (pc + 1) ls (.int (iI v) :: rest))) : W p l e R s m args below meth c H locs cells slots Q (F0 m pc ls (.int (iI z) :: .ref (G.2.2 27) :: rest)) := by
  subst hv
  exact aldI X I _ 1 (atM_firstKinds_a) rfl h0 (by decide) hdg kk
theorem sM_firstKinds_a {z v : Int} : (wM G S).set 27 (G.2.2 27, .inl (G.2.1 1, 6, .inl (fun i : Nat => iI (ua S.1 27 z v 27 i)))) = wM G (ua S.1 27 z v, S.2) := rfl
theorem qM_firstKinds (X : CallFix p m c cc nL s args TB own) (I : In (KM G) s H0 H locs S) {z v : Int} (h0 : 0 ≤ z ∧ z < 6) (hdg : decode cc pc = .ok (.iastore, 1)) (kk : ∀ (H1 : Heap) (locs1 : List Loc), In (KM G) s H0 H1 locs1 (ua S.1 27 z v, S.2) → W p l e R s m args below meth c H1 locs1 cells slots Q (F0 m (pc + 1) ls rest)) : W p l e R s m args below meth c H locs cells slots Q (F0 m pc ls (.int (iI v) :: .int (iI z) :: .ref (G.2.2 27) :: rest)) := astI X I (f := S.1) (k := 27) (S1 := (ua S.1 27 z v, S.2)) _ 1 (atM_firstKinds_a) rfl h0 (by decide) sM_firstKinds_a hdg kk
end SDM
end
section
theorem dX0_init_0 : decode cX0_init 0 = .ok (.aload_n 0, 1) := by decide +kernel
theorem dX0_init_1 : decode cX0_init 1 = .ok (.invokespecial 3, 3) := by decide +kernel
theorem dX0_init_4 : decode cX0_init 4 = .ok (.aload_n 0, 1) := by decide +kernel
theorem dX0_init_5 : decode cX0_init 5 = .ok (.bipush 6, 2) := by decide +kernel
theorem dX0_init_7 : decode cX0_init 7 = .ok (.newarray .long, 2) := by decide +kernel
theorem dX0_init_9 : decode cX0_init 9 = .ok (.putfield 9, 3) := by decide +kernel
theorem dX0_init_12 : decode cX0_init 12 = .ok (.aload_n 0, 1) := by decide +kernel
theorem dX0_init_13 : decode cX0_init 13 = .ok (.iconst 0, 1) := by decide +kernel
theorem dX0_init_14 : decode cX0_init 14 = .ok (.putfield 15, 3) := by decide +kernel
theorem dX0_init_17 : decode cX0_init 17 = .ok (.return_, 1) := by decide +kernel
theorem dX0_add_0 : decode cX0_add 0 = .ok (.iconst 5, 1) := by decide +kernel
theorem dX0_add_1 : decode cX0_add 1 = .ok (.istore_n 3, 1) := by decide +kernel
theorem dX0_add_2 : decode cX0_add 2 = .ok (.iload_n 3, 1) := by decide +kernel
theorem dX0_add_3 : decode cX0_add 3 = .ok (.ifCond .le 23, 3) := by decide +kernel
theorem dX0_add_6 : decode cX0_add 6 = .ok (.aload_n 0, 1) := by decide +kernel
theorem dX0_add_7 : decode cX0_add 7 = .ok (.getfield 9, 3) := by decide +kernel
theorem dX0_add_10 : decode cX0_add 10 = .ok (.iload_n 3, 1) := by decide +kernel
theorem dX0_add_11 : decode cX0_add 11 = .ok (.aload_n 0, 1) := by decide +kernel
theorem dX0_add_12 : decode cX0_add 12 = .ok (.getfield 9, 3) := by decide +kernel
theorem dX0_add_15 : decode cX0_add 15 = .ok (.iload_n 3, 1) := by decide +kernel
theorem dX0_add_16 : decode cX0_add 16 = .ok (.iconst 1, 1) := by decide +kernel
theorem dX0_add_17 : decode cX0_add 17 = .ok (.isub, 1) := by decide +kernel
theorem dX0_add_18 : decode cX0_add 18 = .ok (.laload, 1) := by decide +kernel
theorem dX0_add_19 : decode cX0_add 19 = .ok (.lastore, 1) := by decide +kernel
theorem dX0_add_20 : decode cX0_add 20 = .ok (.iinc 3 (-1), 3) := by decide +kernel
theorem dX0_add_23 : decode cX0_add 23 = .ok (.goto (-21), 3) := by decide +kernel
theorem dX0_add_26 : decode cX0_add 26 = .ok (.aload_n 0, 1) := by decide +kernel
theorem dX0_add_27 : decode cX0_add 27 = .ok (.getfield 9, 3) := by decide +kernel
theorem dX0_add_30 : decode cX0_add 30 = .ok (.iconst 0, 1) := by decide +kernel
theorem dX0_add_31 : decode cX0_add 31 = .ok (.lload_n 1, 1) := by decide +kernel
theorem dX0_add_32 : decode cX0_add 32 = .ok (.lastore, 1) := by decide +kernel
theorem dX0_add_33 : decode cX0_add 33 = .ok (.aload_n 0, 1) := by decide +kernel
theorem dX0_add_34 : decode cX0_add 34 = .ok (.aload_n 0, 1) := by decide +kernel
theorem dX0_add_35 : decode cX0_add 35 = .ok (.getfield 15, 3) := by decide +kernel
theorem dX0_add_38 : decode cX0_add 38 = .ok (.iconst 1, 1) := by decide +kernel
theorem dX0_add_39 : decode cX0_add 39 = .ok (.iadd, 1) := by decide +kernel
theorem dX0_add_40 : decode cX0_add 40 = .ok (.bipush 6, 2) := by decide +kernel
theorem dX0_add_42 : decode cX0_add 42 = .ok (.invokestatic 19, 3) := by decide +kernel
theorem dX0_add_45 : decode cX0_add 45 = .ok (.putfield 15, 3) := by decide +kernel
theorem dX0_add_48 : decode cX0_add 48 = .ok (.return_, 1) := by decide +kernel
theorem dX1_init_0 : decode cX1_init 0 = .ok (.aload_n 0, 1) := by decide +kernel
theorem dX1_init_1 : decode cX1_init 1 = .ok (.invokespecial 3, 3) := by decide +kernel
theorem dX1_init_4 : decode cX1_init 4 = .ok (.aload_n 0, 1) := by decide +kernel
theorem dX1_init_5 : decode cX1_init 5 = .ok (.bipush 32, 2) := by decide +kernel
theorem dX1_init_7 : decode cX1_init 7 = .ok (.newarray .int, 2) := by decide +kernel
theorem dX1_init_9 : decode cX1_init 9 = .ok (.putfield 9, 3) := by decide +kernel
theorem dX1_init_12 : decode cX1_init 12 = .ok (.aload_n 0, 1) := by decide +kernel
theorem dX1_init_13 : decode cX1_init 13 = .ok (.bipush 32, 2) := by decide +kernel
theorem dX1_init_15 : decode cX1_init 15 = .ok (.newarray .long, 2) := by decide +kernel
theorem dX1_init_17 : decode cX1_init 17 = .ok (.putfield 15, 3) := by decide +kernel
theorem dX1_init_20 : decode cX1_init 20 = .ok (.aload_n 0, 1) := by decide +kernel
theorem dX1_init_21 : decode cX1_init 21 = .ok (.bipush 32, 2) := by decide +kernel
theorem dX1_init_23 : decode cX1_init 23 = .ok (.newarray .int, 2) := by decide +kernel
theorem dX1_init_25 : decode cX1_init 25 = .ok (.putfield 19, 3) := by decide +kernel
theorem dX1_init_28 : decode cX1_init 28 = .ok (.aload_n 0, 1) := by decide +kernel
theorem dX1_init_29 : decode cX1_init 29 = .ok (.bipush 32, 2) := by decide +kernel
theorem dX1_init_31 : decode cX1_init 31 = .ok (.newarray .int, 2) := by decide +kernel
theorem dX1_init_33 : decode cX1_init 33 = .ok (.putfield 22, 3) := by decide +kernel
theorem dX1_init_36 : decode cX1_init 36 = .ok (.aload_n 0, 1) := by decide +kernel
theorem dX1_init_37 : decode cX1_init 37 = .ok (.iconst 0, 1) := by decide +kernel
theorem dX1_init_38 : decode cX1_init 38 = .ok (.putfield 25, 3) := by decide +kernel
theorem dX1_init_41 : decode cX1_init 41 = .ok (.aload_n 0, 1) := by decide +kernel
theorem dX1_init_42 : decode cX1_init 42 = .ok (.iconst 0, 1) := by decide +kernel
theorem dX1_init_43 : decode cX1_init 43 = .ok (.putfield 29, 3) := by decide +kernel
theorem dX1_init_46 : decode cX1_init 46 = .ok (.return_, 1) := by decide +kernel
theorem dX1_placeOf_0 : decode cX1_placeOf 0 = .ok (.ldc2_w 32, 3) := by decide +kernel
theorem dX1_placeOf_3 : decode cX1_placeOf 3 = .ok (.iload_n 0, 1) := by decide +kernel
theorem dX1_placeOf_4 : decode cX1_placeOf 4 = .ok (.i2l, 1) := by decide +kernel
theorem dX1_placeOf_5 : decode cX1_placeOf 5 = .ok (.lmul, 1) := by decide +kernel
theorem dX1_placeOf_6 : decode cX1_placeOf 6 = .ok (.ldc2_w 34, 3) := by decide +kernel
theorem dX1_placeOf_9 : decode cX1_placeOf 9 = .ok (.lload_n 1, 1) := by decide +kernel
theorem dX1_placeOf_10 : decode cX1_placeOf 10 = .ok (.lmul, 1) := by decide +kernel
theorem dX1_placeOf_11 : decode cX1_placeOf 11 = .ok (.ladd, 1) := by decide +kernel
theorem dX1_placeOf_12 : decode cX1_placeOf 12 = .ok (.iload_n 3, 1) := by decide +kernel
theorem dX1_placeOf_13 : decode cX1_placeOf 13 = .ok (.i2l, 1) := by decide +kernel
theorem dX1_placeOf_14 : decode cX1_placeOf 14 = .ok (.ladd, 1) := by decide +kernel
theorem dX1_placeOf_15 : decode cX1_placeOf 15 = .ok (.ldc2_w 32, 3) := by decide +kernel
theorem dX1_placeOf_18 : decode cX1_placeOf 18 = .ok (.land, 1) := by decide +kernel
theorem dX1_placeOf_19 : decode cX1_placeOf 19 = .ok (.l2i, 1) := by decide +kernel
theorem dX1_placeOf_20 : decode cX1_placeOf 20 = .ok (.ireturn, 1) := by decide +kernel
theorem dX1_holds_0 : decode cX1_holds 0 = .ok (.aload_n 0, 1) := by decide +kernel
theorem dX1_holds_1 : decode cX1_holds 1 = .ok (.getfield 9, 3) := by decide +kernel
theorem dX1_holds_4 : decode cX1_holds 4 = .ok (.iload_n 1, 1) := by decide +kernel
theorem dX1_holds_5 : decode cX1_holds 5 = .ok (.iaload, 1) := by decide +kernel
theorem dX1_holds_6 : decode cX1_holds 6 = .ok (.iload_n 2, 1) := by decide +kernel
theorem dX1_holds_7 : decode cX1_holds 7 = .ok (.if_icmp .ne 29, 3) := by decide +kernel
theorem dX1_holds_10 : decode cX1_holds 10 = .ok (.aload_n 0, 1) := by decide +kernel
theorem dX1_holds_11 : decode cX1_holds 11 = .ok (.getfield 15, 3) := by decide +kernel
theorem dX1_holds_14 : decode cX1_holds 14 = .ok (.iload_n 1, 1) := by decide +kernel
theorem dX1_holds_15 : decode cX1_holds 15 = .ok (.laload, 1) := by decide +kernel
theorem dX1_holds_16 : decode cX1_holds 16 = .ok (.lload_n 3, 1) := by decide +kernel
theorem dX1_holds_17 : decode cX1_holds 17 = .ok (.lcmp, 1) := by decide +kernel
theorem dX1_holds_18 : decode cX1_holds 18 = .ok (.ifCond .ne 18, 3) := by decide +kernel
theorem dX1_holds_21 : decode cX1_holds 21 = .ok (.aload_n 0, 1) := by decide +kernel
theorem dX1_holds_22 : decode cX1_holds 22 = .ok (.getfield 19, 3) := by decide +kernel
theorem dX1_holds_25 : decode cX1_holds 25 = .ok (.iload_n 1, 1) := by decide +kernel
theorem dX1_holds_26 : decode cX1_holds 26 = .ok (.iaload, 1) := by decide +kernel
theorem dX1_holds_27 : decode cX1_holds 27 = .ok (.iload 5, 2) := by decide +kernel
theorem dX1_holds_29 : decode cX1_holds 29 = .ok (.if_icmp .ne 7, 3) := by decide +kernel
theorem dX1_holds_32 : decode cX1_holds 32 = .ok (.iconst 1, 1) := by decide +kernel
theorem dX1_holds_33 : decode cX1_holds 33 = .ok (.goto 4, 3) := by decide +kernel
theorem dX1_holds_36 : decode cX1_holds 36 = .ok (.iconst 0, 1) := by decide +kernel
theorem dX1_holds_37 : decode cX1_holds 37 = .ok (.ireturn, 1) := by decide +kernel
theorem dX1_put_0 : decode cX1_put 0 = .ok (.aload_n 0, 1) := by decide +kernel
theorem dX1_put_1 : decode cX1_put 1 = .ok (.getfield 9, 3) := by decide +kernel
theorem dX1_put_4 : decode cX1_put 4 = .ok (.iload_n 1, 1) := by decide +kernel
theorem dX1_put_5 : decode cX1_put 5 = .ok (.iload_n 2, 1) := by decide +kernel
theorem dX1_put_6 : decode cX1_put 6 = .ok (.iastore, 1) := by decide +kernel
theorem dX1_put_7 : decode cX1_put 7 = .ok (.aload_n 0, 1) := by decide +kernel
theorem dX1_put_8 : decode cX1_put 8 = .ok (.getfield 15, 3) := by decide +kernel
theorem dX1_put_11 : decode cX1_put 11 = .ok (.iload_n 1, 1) := by decide +kernel
theorem dX1_put_12 : decode cX1_put 12 = .ok (.lload_n 3, 1) := by decide +kernel
theorem dX1_put_13 : decode cX1_put 13 = .ok (.lastore, 1) := by decide +kernel
theorem dX1_put_14 : decode cX1_put 14 = .ok (.aload_n 0, 1) := by decide +kernel
theorem dX1_put_15 : decode cX1_put 15 = .ok (.getfield 19, 3) := by decide +kernel
theorem dX1_put_18 : decode cX1_put 18 = .ok (.iload_n 1, 1) := by decide +kernel
theorem dX1_put_19 : decode cX1_put 19 = .ok (.iload 5, 2) := by decide +kernel
theorem dX1_put_21 : decode cX1_put 21 = .ok (.iastore, 1) := by decide +kernel
theorem dX1_put_22 : decode cX1_put 22 = .ok (.aload_n 0, 1) := by decide +kernel
theorem dX1_put_23 : decode cX1_put 23 = .ok (.getfield 22, 3) := by decide +kernel
theorem dX1_put_26 : decode cX1_put 26 = .ok (.iload_n 1, 1) := by decide +kernel
theorem dX1_put_27 : decode cX1_put 27 = .ok (.iload 6, 2) := by decide +kernel
theorem dX1_put_29 : decode cX1_put 29 = .ok (.iastore, 1) := by decide +kernel
theorem dX1_put_30 : decode cX1_put 30 = .ok (.return_, 1) := by decide +kernel
theorem dX2_init_0 : decode cX2_init 0 = .ok (.aload_n 0, 1) := by decide +kernel
theorem dX2_init_1 : decode cX2_init 1 = .ok (.invokespecial 3, 3) := by decide +kernel
theorem dX2_init_4 : decode cX2_init 4 = .ok (.aload_n 0, 1) := by decide +kernel
theorem dX2_init_5 : decode cX2_init 5 = .ok (.bipush 6, 2) := by decide +kernel
theorem dX2_init_7 : decode cX2_init 7 = .ok (.bipush 12, 2) := by decide +kernel
theorem dX2_init_9 : decode cX2_init 9 = .ok (.multianewarray 9 2, 4) := by decide +kernel
theorem dX2_init_13 : decode cX2_init 13 = .ok (.putfield 11, 3) := by decide +kernel
theorem dX2_init_16 : decode cX2_init 16 = .ok (.aload_n 0, 1) := by decide +kernel
theorem dX2_init_17 : decode cX2_init 17 = .ok (.bipush 6, 2) := by decide +kernel
theorem dX2_init_19 : decode cX2_init 19 = .ok (.bipush 12, 2) := by decide +kernel
theorem dX2_init_21 : decode cX2_init 21 = .ok (.multianewarray 9 2, 4) := by decide +kernel
theorem dX2_init_25 : decode cX2_init 25 = .ok (.putfield 16, 3) := by decide +kernel
theorem dX2_init_28 : decode cX2_init 28 = .ok (.aload_n 0, 1) := by decide +kernel
theorem dX2_init_29 : decode cX2_init 29 = .ok (.bipush 7, 2) := by decide +kernel
theorem dX2_init_31 : decode cX2_init 31 = .ok (.newarray .int, 2) := by decide +kernel
theorem dX2_init_33 : decode cX2_init 33 = .ok (.putfield 19, 3) := by decide +kernel
theorem dX2_init_36 : decode cX2_init 36 = .ok (.aload_n 0, 1) := by decide +kernel
theorem dX2_init_37 : decode cX2_init 37 = .ok (.iconst (-1), 1) := by decide +kernel
theorem dX2_init_38 : decode cX2_init 38 = .ok (.putfield 23, 3) := by decide +kernel
theorem dX2_init_41 : decode cX2_init 41 = .ok (.return_, 1) := by decide +kernel
theorem dX2_workOut_0 : decode cX2_workOut 0 = .ok (.aload_n 0, 1) := by decide +kernel
theorem dX2_workOut_1 : decode cX2_workOut 1 = .ok (.iconst (-1), 1) := by decide +kernel
theorem dX2_workOut_2 : decode cX2_workOut 2 = .ok (.putfield 23, 3) := by decide +kernel
theorem dX2_workOut_5 : decode cX2_workOut 5 = .ok (.aload_n 2, 1) := by decide +kernel
theorem dX2_workOut_6 : decode cX2_workOut 6 = .ok (.getfield 27, 3) := by decide +kernel
theorem dX2_workOut_9 : decode cX2_workOut 9 = .ok (.ifCond .ne 5, 3) := by decide +kernel
theorem dX2_workOut_12 : decode cX2_workOut 12 = .ok (.iconst 0, 1) := by decide +kernel
theorem dX2_workOut_13 : decode cX2_workOut 13 = .ok (.ireturn, 1) := by decide +kernel
theorem dX2_workOut_14 : decode cX2_workOut 14 = .ok (.aload_n 2, 1) := by decide +kernel
theorem dX2_workOut_15 : decode cX2_workOut 15 = .ok (.getfield 27, 3) := by decide +kernel
theorem dX2_workOut_18 : decode cX2_workOut 18 = .ok (.iconst 1, 1) := by decide +kernel
theorem dX2_workOut_19 : decode cX2_workOut 19 = .ok (.isub, 1) := by decide +kernel
theorem dX2_workOut_20 : decode cX2_workOut 20 = .ok (.istore 4, 2) := by decide +kernel
theorem dX2_workOut_22 : decode cX2_workOut 22 = .ok (.iload 4, 2) := by decide +kernel
theorem dX2_workOut_24 : decode cX2_workOut 24 = .ok (.ifCond .lt 18, 3) := by decide +kernel
theorem dX2_workOut_27 : decode cX2_workOut 27 = .ok (.aload_n 0, 1) := by decide +kernel
theorem dX2_workOut_28 : decode cX2_workOut 28 = .ok (.aload_n 1, 1) := by decide +kernel
theorem dX2_workOut_29 : decode cX2_workOut 29 = .ok (.aload_n 2, 1) := by decide +kernel
theorem dX2_workOut_30 : decode cX2_workOut 30 = .ok (.iload 4, 2) := by decide +kernel
theorem dX2_workOut_32 : decode cX2_workOut 32 = .ok (.aload_n 3, 1) := by decide +kernel
theorem dX2_workOut_33 : decode cX2_workOut 33 = .ok (.invokevirtual 32, 3) := by decide +kernel
theorem dX2_workOut_36 : decode cX2_workOut 36 = .ok (.iinc 4 (-1), 3) := by decide +kernel
theorem dX2_workOut_39 : decode cX2_workOut 39 = .ok (.goto (-17), 3) := by decide +kernel
theorem dX2_workOut_42 : decode cX2_workOut 42 = .ok (.bipush (-4), 2) := by decide +kernel
theorem dX2_workOut_44 : decode cX2_workOut 44 = .ok (.istore 4, 2) := by decide +kernel
theorem dX2_workOut_46 : decode cX2_workOut 46 = .ok (.iconst 0, 1) := by decide +kernel
theorem dX2_workOut_47 : decode cX2_workOut 47 = .ok (.istore 5, 2) := by decide +kernel
theorem dX2_workOut_49 : decode cX2_workOut 49 = .ok (.iload 5, 2) := by decide +kernel
theorem dX2_workOut_51 : decode cX2_workOut 51 = .ok (.aload_n 1, 1) := by decide +kernel
theorem dX2_workOut_52 : decode cX2_workOut 52 = .ok (.getfield 36, 3) := by decide +kernel
theorem dX2_workOut_55 : decode cX2_workOut 55 = .ok (.if_icmp .ge 40, 3) := by decide +kernel
theorem dX2_workOut_58 : decode cX2_workOut 58 = .ok (.aload_n 0, 1) := by decide +kernel
theorem dX2_workOut_59 : decode cX2_workOut 59 = .ok (.getfield 11, 3) := by decide +kernel
theorem dX2_workOut_62 : decode cX2_workOut 62 = .ok (.iconst 0, 1) := by decide +kernel
theorem dX2_workOut_63 : decode cX2_workOut 63 = .ok (.aaload, 1) := by decide +kernel
theorem dX2_workOut_64 : decode cX2_workOut 64 = .ok (.iload 5, 2) := by decide +kernel
theorem dX2_workOut_66 : decode cX2_workOut 66 = .ok (.iaload, 1) := by decide +kernel
theorem dX2_workOut_67 : decode cX2_workOut 67 = .ok (.iload 4, 2) := by decide +kernel
theorem dX2_workOut_69 : decode cX2_workOut 69 = .ok (.if_icmp .le 20, 3) := by decide +kernel
theorem dX2_workOut_72 : decode cX2_workOut 72 = .ok (.aload_n 0, 1) := by decide +kernel
theorem dX2_workOut_73 : decode cX2_workOut 73 = .ok (.getfield 11, 3) := by decide +kernel
theorem dX2_workOut_76 : decode cX2_workOut 76 = .ok (.iconst 0, 1) := by decide +kernel
theorem dX2_workOut_77 : decode cX2_workOut 77 = .ok (.aaload, 1) := by decide +kernel
theorem dX2_workOut_78 : decode cX2_workOut 78 = .ok (.iload 5, 2) := by decide +kernel
theorem dX2_workOut_80 : decode cX2_workOut 80 = .ok (.iaload, 1) := by decide +kernel
theorem dX2_workOut_81 : decode cX2_workOut 81 = .ok (.istore 4, 2) := by decide +kernel
theorem dX2_workOut_83 : decode cX2_workOut 83 = .ok (.aload_n 0, 1) := by decide +kernel
theorem dX2_workOut_84 : decode cX2_workOut 84 = .ok (.iload 5, 2) := by decide +kernel
theorem dX2_workOut_86 : decode cX2_workOut 86 = .ok (.putfield 23, 3) := by decide +kernel
theorem dX2_workOut_89 : decode cX2_workOut 89 = .ok (.iinc 5 1, 3) := by decide +kernel
theorem dX2_workOut_92 : decode cX2_workOut 92 = .ok (.goto (-43), 3) := by decide +kernel
theorem dX2_workOut_95 : decode cX2_workOut 95 = .ok (.iload 4, 2) := by decide +kernel
theorem dX2_workOut_97 : decode cX2_workOut 97 = .ok (.ireturn, 1) := by decide +kernel
theorem dX2_workOutLetter_0 : decode cX2_workOutLetter 0 = .ok (.iconst 0, 1) := by decide +kernel
theorem dX2_workOutLetter_1 : decode cX2_workOutLetter 1 = .ok (.istore 5, 2) := by decide +kernel
theorem dX2_workOutLetter_3 : decode cX2_workOutLetter 3 = .ok (.iload 5, 2) := by decide +kernel
theorem dX2_workOutLetter_5 : decode cX2_workOutLetter 5 = .ok (.aload_n 1, 1) := by decide +kernel
theorem dX2_workOutLetter_6 : decode cX2_workOutLetter 6 = .ok (.getfield 36, 3) := by decide +kernel
theorem dX2_workOutLetter_9 : decode cX2_workOutLetter 9 = .ok (.if_icmp .ge 88, 3) := by decide +kernel
theorem dX2_workOutLetter_12 : decode cX2_workOutLetter 12 = .ok (.aload_n 0, 1) := by decide +kernel
theorem dX2_workOutLetter_13 : decode cX2_workOutLetter 13 = .ok (.getfield 16, 3) := by decide +kernel
theorem dX2_workOutLetter_16 : decode cX2_workOutLetter 16 = .ok (.iload_n 3, 1) := by decide +kernel
theorem dX2_workOutLetter_17 : decode cX2_workOutLetter 17 = .ok (.aaload, 1) := by decide +kernel
theorem dX2_workOutLetter_18 : decode cX2_workOutLetter 18 = .ok (.iload 5, 2) := by decide +kernel
theorem dX2_workOutLetter_20 : decode cX2_workOutLetter 20 = .ok (.iconst (-1), 1) := by decide +kernel
theorem dX2_workOutLetter_21 : decode cX2_workOutLetter 21 = .ok (.iastore, 1) := by decide +kernel
theorem dX2_workOutLetter_22 : decode cX2_workOutLetter 22 = .ok (.aload_n 1, 1) := by decide +kernel
theorem dX2_workOutLetter_23 : decode cX2_workOutLetter 23 = .ok (.iload 5, 2) := by decide +kernel
theorem dX2_workOutLetter_25 : decode cX2_workOutLetter 25 = .ok (.aload_n 2, 1) := by decide +kernel
theorem dX2_workOutLetter_26 : decode cX2_workOutLetter 26 = .ok (.getfield 39, 3) := by decide +kernel
theorem dX2_workOutLetter_29 : decode cX2_workOutLetter 29 = .ok (.iload_n 3, 1) := by decide +kernel
theorem dX2_workOutLetter_30 : decode cX2_workOutLetter 30 = .ok (.caload, 1) := by decide +kernel
theorem dX2_workOutLetter_31 : decode cX2_workOutLetter 31 = .ok (.invokevirtual 43, 3) := by decide +kernel
theorem dX2_workOutLetter_34 : decode cX2_workOutLetter 34 = .ok (.ifCond .ne 17, 3) := by decide +kernel
theorem dX2_workOutLetter_37 : decode cX2_workOutLetter 37 = .ok (.aload_n 0, 1) := by decide +kernel
theorem dX2_workOutLetter_38 : decode cX2_workOutLetter 38 = .ok (.getfield 11, 3) := by decide +kernel
theorem dX2_workOutLetter_41 : decode cX2_workOutLetter 41 = .ok (.iload_n 3, 1) := by decide +kernel
theorem dX2_workOutLetter_42 : decode cX2_workOutLetter 42 = .ok (.aaload, 1) := by decide +kernel
theorem dX2_workOutLetter_43 : decode cX2_workOutLetter 43 = .ok (.iload 5, 2) := by decide +kernel
theorem dX2_workOutLetter_45 : decode cX2_workOutLetter 45 = .ok (.bipush (-4), 2) := by decide +kernel
theorem dX2_workOutLetter_47 : decode cX2_workOutLetter 47 = .ok (.iastore, 1) := by decide +kernel
theorem dX2_workOutLetter_48 : decode cX2_workOutLetter 48 = .ok (.goto 43, 3) := by decide +kernel
theorem dX2_workOutLetter_51 : decode cX2_workOutLetter 51 = .ok (.iload_n 3, 1) := by decide +kernel
theorem dX2_workOutLetter_52 : decode cX2_workOutLetter 52 = .ok (.aload_n 2, 1) := by decide +kernel
theorem dX2_workOutLetter_53 : decode cX2_workOutLetter 53 = .ok (.getfield 27, 3) := by decide +kernel
theorem dX2_workOutLetter_56 : decode cX2_workOutLetter 56 = .ok (.iconst 1, 1) := by decide +kernel
theorem dX2_workOutLetter_57 : decode cX2_workOutLetter 57 = .ok (.isub, 1) := by decide +kernel
theorem dX2_workOutLetter_58 : decode cX2_workOutLetter 58 = .ok (.if_icmp .ne 23, 3) := by decide +kernel
theorem dX2_workOutLetter_61 : decode cX2_workOutLetter 61 = .ok (.aload_n 0, 1) := by decide +kernel
theorem dX2_workOutLetter_62 : decode cX2_workOutLetter 62 = .ok (.getfield 11, 3) := by decide +kernel
theorem dX2_workOutLetter_65 : decode cX2_workOutLetter 65 = .ok (.iload_n 3, 1) := by decide +kernel
theorem dX2_workOutLetter_66 : decode cX2_workOutLetter 66 = .ok (.aaload, 1) := by decide +kernel
theorem dX2_workOutLetter_67 : decode cX2_workOutLetter 67 = .ok (.iload 5, 2) := by decide +kernel
theorem dX2_workOutLetter_69 : decode cX2_workOutLetter 69 = .ok (.aload 4, 2) := by decide +kernel
theorem dX2_workOutLetter_71 : decode cX2_workOutLetter 71 = .ok (.aload_n 1, 1) := by decide +kernel
theorem dX2_workOutLetter_72 : decode cX2_workOutLetter 72 = .ok (.iload 5, 2) := by decide +kernel
theorem dX2_workOutLetter_74 : decode cX2_workOutLetter 74 = .ok (.invokevirtual 47, 3) := by decide +kernel
theorem dX2_workOutLetter_77 : decode cX2_workOutLetter 77 = .ok (.iastore, 1) := by decide +kernel
theorem dX2_workOutLetter_78 : decode cX2_workOutLetter 78 = .ok (.goto 13, 3) := by decide +kernel
theorem dX2_workOutLetter_81 : decode cX2_workOutLetter 81 = .ok (.aload_n 0, 1) := by decide +kernel
theorem dX2_workOutLetter_82 : decode cX2_workOutLetter 82 = .ok (.aload_n 1, 1) := by decide +kernel
theorem dX2_workOutLetter_83 : decode cX2_workOutLetter 83 = .ok (.iload_n 3, 1) := by decide +kernel
theorem dX2_workOutLetter_84 : decode cX2_workOutLetter 84 = .ok (.iload 5, 2) := by decide +kernel
theorem dX2_workOutLetter_86 : decode cX2_workOutLetter 86 = .ok (.aload 4, 2) := by decide +kernel
theorem dX2_workOutLetter_88 : decode cX2_workOutLetter 88 = .ok (.invokevirtual 53, 3) := by decide +kernel
theorem dX2_workOutLetter_91 : decode cX2_workOutLetter 91 = .ok (.iinc 5 1, 3) := by decide +kernel
theorem dX2_workOutLetter_94 : decode cX2_workOutLetter 94 = .ok (.goto (-91), 3) := by decide +kernel
theorem dX2_workOutLetter_97 : decode cX2_workOutLetter 97 = .ok (.return_, 1) := by decide +kernel
theorem dX2_workOutNext_0 : decode cX2_workOutNext 0 = .ok (.iconst 0, 1) := by decide +kernel
theorem dX2_workOutNext_1 : decode cX2_workOutNext 1 = .ok (.istore 5, 2) := by decide +kernel
theorem dX2_workOutNext_3 : decode cX2_workOutNext 3 = .ok (.iconst (-1), 1) := by decide +kernel
theorem dX2_workOutNext_4 : decode cX2_workOutNext 4 = .ok (.istore 6, 2) := by decide +kernel
theorem dX2_workOutNext_6 : decode cX2_workOutNext 6 = .ok (.iload_n 3, 1) := by decide +kernel
theorem dX2_workOutNext_7 : decode cX2_workOutNext 7 = .ok (.iconst 1, 1) := by decide +kernel
theorem dX2_workOutNext_8 : decode cX2_workOutNext 8 = .ok (.iadd, 1) := by decide +kernel
theorem dX2_workOutNext_9 : decode cX2_workOutNext 9 = .ok (.istore 7, 2) := by decide +kernel
theorem dX2_workOutNext_11 : decode cX2_workOutNext 11 = .ok (.iload 7, 2) := by decide +kernel
theorem dX2_workOutNext_13 : decode cX2_workOutNext 13 = .ok (.aload_n 1, 1) := by decide +kernel
theorem dX2_workOutNext_14 : decode cX2_workOutNext 14 = .ok (.getfield 36, 3) := by decide +kernel
theorem dX2_workOutNext_17 : decode cX2_workOutNext 17 = .ok (.if_icmp .ge 72, 3) := by decide +kernel
theorem dX2_workOutNext_20 : decode cX2_workOutNext 20 = .ok (.aload_n 0, 1) := by decide +kernel
theorem dX2_workOutNext_21 : decode cX2_workOutNext 21 = .ok (.getfield 11, 3) := by decide +kernel
theorem dX2_workOutNext_24 : decode cX2_workOutNext 24 = .ok (.iload_n 2, 1) := by decide +kernel
theorem dX2_workOutNext_25 : decode cX2_workOutNext 25 = .ok (.iconst 1, 1) := by decide +kernel
theorem dX2_workOutNext_26 : decode cX2_workOutNext 26 = .ok (.iadd, 1) := by decide +kernel
theorem dX2_workOutNext_27 : decode cX2_workOutNext 27 = .ok (.aaload, 1) := by decide +kernel
theorem dX2_workOutNext_28 : decode cX2_workOutNext 28 = .ok (.iload 7, 2) := by decide +kernel
theorem dX2_workOutNext_30 : decode cX2_workOutNext 30 = .ok (.iaload, 1) := by decide +kernel
theorem dX2_workOutNext_31 : decode cX2_workOutNext 31 = .ok (.bipush (-4), 2) := by decide +kernel
theorem dX2_workOutNext_33 : decode cX2_workOutNext 33 = .ok (.if_icmp .ne 6, 3) := by decide +kernel
theorem dX2_workOutNext_36 : decode cX2_workOutNext 36 = .ok (.goto 47, 3) := by decide +kernel
theorem dX2_workOutNext_39 : decode cX2_workOutNext 39 = .ok (.aload_n 0, 1) := by decide +kernel
theorem dX2_workOutNext_40 : decode cX2_workOutNext 40 = .ok (.getfield 11, 3) := by decide +kernel
theorem dX2_workOutNext_43 : decode cX2_workOutNext 43 = .ok (.iload_n 2, 1) := by decide +kernel
theorem dX2_workOutNext_44 : decode cX2_workOutNext 44 = .ok (.iconst 1, 1) := by decide +kernel
theorem dX2_workOutNext_45 : decode cX2_workOutNext 45 = .ok (.iadd, 1) := by decide +kernel
theorem dX2_workOutNext_46 : decode cX2_workOutNext 46 = .ok (.aaload, 1) := by decide +kernel
theorem dX2_workOutNext_47 : decode cX2_workOutNext 47 = .ok (.iload 7, 2) := by decide +kernel
theorem dX2_workOutNext_49 : decode cX2_workOutNext 49 = .ok (.iaload, 1) := by decide +kernel
theorem dX2_workOutNext_50 : decode cX2_workOutNext 50 = .ok (.aload 4, 2) := by decide +kernel
theorem dX2_workOutNext_52 : decode cX2_workOutNext 52 = .ok (.aload_n 1, 1) := by decide +kernel
theorem dX2_workOutNext_53 : decode cX2_workOutNext 53 = .ok (.iload_n 3, 1) := by decide +kernel
theorem dX2_workOutNext_54 : decode cX2_workOutNext 54 = .ok (.iload 7, 2) := by decide +kernel
theorem dX2_workOutNext_56 : decode cX2_workOutNext 56 = .ok (.invokevirtual 57, 3) := by decide +kernel
theorem dX2_workOutNext_59 : decode cX2_workOutNext 59 = .ok (.iadd, 1) := by decide +kernel
theorem dX2_workOutNext_60 : decode cX2_workOutNext 60 = .ok (.istore 8, 2) := by decide +kernel
theorem dX2_workOutNext_62 : decode cX2_workOutNext 62 = .ok (.iload 6, 2) := by decide +kernel
theorem dX2_workOutNext_64 : decode cX2_workOutNext 64 = .ok (.iconst (-1), 1) := by decide +kernel
theorem dX2_workOutNext_65 : decode cX2_workOutNext 65 = .ok (.if_icmp .eq 10, 3) := by decide +kernel
theorem dX2_workOutNext_68 : decode cX2_workOutNext 68 = .ok (.iload 8, 2) := by decide +kernel
theorem dX2_workOutNext_70 : decode cX2_workOutNext 70 = .ok (.iload 5, 2) := by decide +kernel
theorem dX2_workOutNext_72 : decode cX2_workOutNext 72 = .ok (.if_icmp .le 11, 3) := by decide +kernel
theorem dX2_workOutNext_75 : decode cX2_workOutNext 75 = .ok (.iload 8, 2) := by decide +kernel
theorem dX2_workOutNext_77 : decode cX2_workOutNext 77 = .ok (.istore 5, 2) := by decide +kernel
theorem dX2_workOutNext_79 : decode cX2_workOutNext 79 = .ok (.iload 7, 2) := by decide +kernel
theorem dX2_workOutNext_81 : decode cX2_workOutNext 81 = .ok (.istore 6, 2) := by decide +kernel
theorem dX2_workOutNext_83 : decode cX2_workOutNext 83 = .ok (.iinc 7 1, 3) := by decide +kernel
theorem dX2_workOutNext_86 : decode cX2_workOutNext 86 = .ok (.goto (-75), 3) := by decide +kernel
theorem dX2_workOutNext_89 : decode cX2_workOutNext 89 = .ok (.aload_n 0, 1) := by decide +kernel
theorem dX2_workOutNext_90 : decode cX2_workOutNext 90 = .ok (.getfield 16, 3) := by decide +kernel
theorem dX2_workOutNext_93 : decode cX2_workOutNext 93 = .ok (.iload_n 2, 1) := by decide +kernel
theorem dX2_workOutNext_94 : decode cX2_workOutNext 94 = .ok (.aaload, 1) := by decide +kernel
theorem dX2_workOutNext_95 : decode cX2_workOutNext 95 = .ok (.iload_n 3, 1) := by decide +kernel
theorem dX2_workOutNext_96 : decode cX2_workOutNext 96 = .ok (.iload 6, 2) := by decide +kernel
theorem dX2_workOutNext_98 : decode cX2_workOutNext 98 = .ok (.iastore, 1) := by decide +kernel
theorem dX2_workOutNext_99 : decode cX2_workOutNext 99 = .ok (.aload_n 0, 1) := by decide +kernel
theorem dX2_workOutNext_100 : decode cX2_workOutNext 100 = .ok (.getfield 11, 3) := by decide +kernel
theorem dX2_workOutNext_103 : decode cX2_workOutNext 103 = .ok (.iload_n 2, 1) := by decide +kernel
theorem dX2_workOutNext_104 : decode cX2_workOutNext 104 = .ok (.aaload, 1) := by decide +kernel
theorem dX2_workOutNext_105 : decode cX2_workOutNext 105 = .ok (.iload_n 3, 1) := by decide +kernel
theorem dX2_workOutNext_106 : decode cX2_workOutNext 106 = .ok (.iload 6, 2) := by decide +kernel
theorem dX2_workOutNext_108 : decode cX2_workOutNext 108 = .ok (.iconst (-1), 1) := by decide +kernel
theorem dX2_workOutNext_109 : decode cX2_workOutNext 109 = .ok (.if_icmp .ne 8, 3) := by decide +kernel
theorem dX2_workOutNext_112 : decode cX2_workOutNext 112 = .ok (.bipush (-4), 2) := by decide +kernel
theorem dX2_workOutNext_114 : decode cX2_workOutNext 114 = .ok (.goto 13, 3) := by decide +kernel
theorem dX2_workOutNext_117 : decode cX2_workOutNext 117 = .ok (.aload 4, 2) := by decide +kernel
theorem dX2_workOutNext_119 : decode cX2_workOutNext 119 = .ok (.aload_n 1, 1) := by decide +kernel
theorem dX2_workOutNext_120 : decode cX2_workOutNext 120 = .ok (.iload_n 3, 1) := by decide +kernel
theorem dX2_workOutNext_121 : decode cX2_workOutNext 121 = .ok (.invokevirtual 47, 3) := by decide +kernel
theorem dX2_workOutNext_124 : decode cX2_workOutNext 124 = .ok (.iload 5, 2) := by decide +kernel
theorem dX2_workOutNext_126 : decode cX2_workOutNext 126 = .ok (.iadd, 1) := by decide +kernel
theorem dX2_workOutNext_127 : decode cX2_workOutNext 127 = .ok (.iastore, 1) := by decide +kernel
theorem dX2_workOutNext_128 : decode cX2_workOutNext 128 = .ok (.return_, 1) := by decide +kernel
theorem dX2_bestPlace_0 : decode cX2_bestPlace 0 = .ok (.aload_n 0, 1) := by decide +kernel
theorem dX2_bestPlace_1 : decode cX2_bestPlace 1 = .ok (.getfield 23, 3) := by decide +kernel
theorem dX2_bestPlace_4 : decode cX2_bestPlace 4 = .ok (.istore_n 2, 1) := by decide +kernel
theorem dX2_bestPlace_5 : decode cX2_bestPlace 5 = .ok (.iconst 0, 1) := by decide +kernel
theorem dX2_bestPlace_6 : decode cX2_bestPlace 6 = .ok (.istore_n 3, 1) := by decide +kernel
theorem dX2_bestPlace_7 : decode cX2_bestPlace 7 = .ok (.iload_n 3, 1) := by decide +kernel
theorem dX2_bestPlace_8 : decode cX2_bestPlace 8 = .ok (.iload_n 1, 1) := by decide +kernel
theorem dX2_bestPlace_9 : decode cX2_bestPlace 9 = .ok (.if_icmp .ge 29, 3) := by decide +kernel
theorem dX2_bestPlace_12 : decode cX2_bestPlace 12 = .ok (.iload_n 3, 1) := by decide +kernel
theorem dX2_bestPlace_13 : decode cX2_bestPlace 13 = .ok (.bipush 6, 2) := by decide +kernel
theorem dX2_bestPlace_15 : decode cX2_bestPlace 15 = .ok (.if_icmp .ge 23, 3) := by decide +kernel
theorem dX2_bestPlace_18 : decode cX2_bestPlace 18 = .ok (.iload_n 2, 1) := by decide +kernel
theorem dX2_bestPlace_19 : decode cX2_bestPlace 19 = .ok (.iconst (-1), 1) := by decide +kernel
theorem dX2_bestPlace_20 : decode cX2_bestPlace 20 = .ok (.if_icmp .eq 18, 3) := by decide +kernel
theorem dX2_bestPlace_23 : decode cX2_bestPlace 23 = .ok (.aload_n 0, 1) := by decide +kernel
theorem dX2_bestPlace_24 : decode cX2_bestPlace 24 = .ok (.getfield 16, 3) := by decide +kernel
theorem dX2_bestPlace_27 : decode cX2_bestPlace 27 = .ok (.iload_n 3, 1) := by decide +kernel
theorem dX2_bestPlace_28 : decode cX2_bestPlace 28 = .ok (.aaload, 1) := by decide +kernel
theorem dX2_bestPlace_29 : decode cX2_bestPlace 29 = .ok (.iload_n 2, 1) := by decide +kernel
theorem dX2_bestPlace_30 : decode cX2_bestPlace 30 = .ok (.iaload, 1) := by decide +kernel
theorem dX2_bestPlace_31 : decode cX2_bestPlace 31 = .ok (.istore_n 2, 1) := by decide +kernel
theorem dX2_bestPlace_32 : decode cX2_bestPlace 32 = .ok (.iinc 3 1, 3) := by decide +kernel
theorem dX2_bestPlace_35 : decode cX2_bestPlace 35 = .ok (.goto (-28), 3) := by decide +kernel
theorem dX2_bestPlace_38 : decode cX2_bestPlace 38 = .ok (.iload_n 2, 1) := by decide +kernel
theorem dX2_bestPlace_39 : decode cX2_bestPlace 39 = .ok (.iconst (-1), 1) := by decide +kernel
theorem dX2_bestPlace_40 : decode cX2_bestPlace 40 = .ok (.if_icmp .ne 8, 3) := by decide +kernel
theorem dX2_bestPlace_43 : decode cX2_bestPlace 43 = .ok (.bipush (-4), 2) := by decide +kernel
theorem dX2_bestPlace_45 : decode cX2_bestPlace 45 = .ok (.goto 4, 3) := by decide +kernel
theorem dX2_bestPlace_48 : decode cX2_bestPlace 48 = .ok (.iload_n 2, 1) := by decide +kernel
theorem dX2_bestPlace_49 : decode cX2_bestPlace 49 = .ok (.ireturn, 1) := by decide +kernel
theorem dX2_countWays_0 : decode cX2_countWays 0 = .ok (.aload_n 0, 1) := by decide +kernel
theorem dX2_countWays_1 : decode cX2_countWays 1 = .ok (.getfield 19, 3) := by decide +kernel
theorem dX2_countWays_4 : decode cX2_countWays 4 = .ok (.iconst 0, 1) := by decide +kernel
theorem dX2_countWays_5 : decode cX2_countWays 5 = .ok (.iconst 1, 1) := by decide +kernel
theorem dX2_countWays_6 : decode cX2_countWays 6 = .ok (.iastore, 1) := by decide +kernel
theorem dX2_countWays_7 : decode cX2_countWays 7 = .ok (.iconst 1, 1) := by decide +kernel
theorem dX2_countWays_8 : decode cX2_countWays 8 = .ok (.istore_n 3, 1) := by decide +kernel
theorem dX2_countWays_9 : decode cX2_countWays 9 = .ok (.iload_n 3, 1) := by decide +kernel
theorem dX2_countWays_10 : decode cX2_countWays 10 = .ok (.aload_n 2, 1) := by decide +kernel
theorem dX2_countWays_11 : decode cX2_countWays 11 = .ok (.getfield 27, 3) := by decide +kernel
theorem dX2_countWays_14 : decode cX2_countWays 14 = .ok (.if_icmp .gt 16, 3) := by decide +kernel
theorem dX2_countWays_17 : decode cX2_countWays 17 = .ok (.aload_n 0, 1) := by decide +kernel
theorem dX2_countWays_18 : decode cX2_countWays 18 = .ok (.getfield 19, 3) := by decide +kernel
theorem dX2_countWays_21 : decode cX2_countWays 21 = .ok (.iload_n 3, 1) := by decide +kernel
theorem dX2_countWays_22 : decode cX2_countWays 22 = .ok (.iconst 0, 1) := by decide +kernel
theorem dX2_countWays_23 : decode cX2_countWays 23 = .ok (.iastore, 1) := by decide +kernel
theorem dX2_countWays_24 : decode cX2_countWays 24 = .ok (.iinc 3 1, 3) := by decide +kernel
theorem dX2_countWays_27 : decode cX2_countWays 27 = .ok (.goto (-18), 3) := by decide +kernel
theorem dX2_countWays_30 : decode cX2_countWays 30 = .ok (.iconst 0, 1) := by decide +kernel
theorem dX2_countWays_31 : decode cX2_countWays 31 = .ok (.istore_n 3, 1) := by decide +kernel
theorem dX2_countWays_32 : decode cX2_countWays 32 = .ok (.iload_n 3, 1) := by decide +kernel
theorem dX2_countWays_33 : decode cX2_countWays 33 = .ok (.aload_n 1, 1) := by decide +kernel
theorem dX2_countWays_34 : decode cX2_countWays 34 = .ok (.getfield 36, 3) := by decide +kernel
theorem dX2_countWays_37 : decode cX2_countWays 37 = .ok (.if_icmp .ge 63, 3) := by decide +kernel
theorem dX2_countWays_40 : decode cX2_countWays 40 = .ok (.aload_n 2, 1) := by decide +kernel
theorem dX2_countWays_41 : decode cX2_countWays 41 = .ok (.getfield 27, 3) := by decide +kernel
theorem dX2_countWays_44 : decode cX2_countWays 44 = .ok (.istore 4, 2) := by decide +kernel
theorem dX2_countWays_46 : decode cX2_countWays 46 = .ok (.iload 4, 2) := by decide +kernel
theorem dX2_countWays_48 : decode cX2_countWays 48 = .ok (.iconst 1, 1) := by decide +kernel
theorem dX2_countWays_49 : decode cX2_countWays 49 = .ok (.if_icmp .lt 45, 3) := by decide +kernel
theorem dX2_countWays_52 : decode cX2_countWays 52 = .ok (.aload_n 1, 1) := by decide +kernel
theorem dX2_countWays_53 : decode cX2_countWays 53 = .ok (.iload_n 3, 1) := by decide +kernel
theorem dX2_countWays_54 : decode cX2_countWays 54 = .ok (.aload_n 2, 1) := by decide +kernel
theorem dX2_countWays_55 : decode cX2_countWays 55 = .ok (.getfield 39, 3) := by decide +kernel
theorem dX2_countWays_58 : decode cX2_countWays 58 = .ok (.iload 4, 2) := by decide +kernel
theorem dX2_countWays_60 : decode cX2_countWays 60 = .ok (.iconst 1, 1) := by decide +kernel
theorem dX2_countWays_61 : decode cX2_countWays 61 = .ok (.isub, 1) := by decide +kernel
theorem dX2_countWays_62 : decode cX2_countWays 62 = .ok (.caload, 1) := by decide +kernel
theorem dX2_countWays_63 : decode cX2_countWays 63 = .ok (.invokevirtual 43, 3) := by decide +kernel
theorem dX2_countWays_66 : decode cX2_countWays 66 = .ok (.ifCond .eq 22, 3) := by decide +kernel
theorem dX2_countWays_69 : decode cX2_countWays 69 = .ok (.aload_n 0, 1) := by decide +kernel
theorem dX2_countWays_70 : decode cX2_countWays 70 = .ok (.getfield 19, 3) := by decide +kernel
theorem dX2_countWays_73 : decode cX2_countWays 73 = .ok (.iload 4, 2) := by decide +kernel
theorem dX2_countWays_75 : decode cX2_countWays 75 = .ok (.dup2, 1) := by decide +kernel
theorem dX2_countWays_76 : decode cX2_countWays 76 = .ok (.iaload, 1) := by decide +kernel
theorem dX2_countWays_77 : decode cX2_countWays 77 = .ok (.aload_n 0, 1) := by decide +kernel
theorem dX2_countWays_78 : decode cX2_countWays 78 = .ok (.getfield 19, 3) := by decide +kernel
theorem dX2_countWays_81 : decode cX2_countWays 81 = .ok (.iload 4, 2) := by decide +kernel
theorem dX2_countWays_83 : decode cX2_countWays 83 = .ok (.iconst 1, 1) := by decide +kernel
theorem dX2_countWays_84 : decode cX2_countWays 84 = .ok (.isub, 1) := by decide +kernel
theorem dX2_countWays_85 : decode cX2_countWays 85 = .ok (.iaload, 1) := by decide +kernel
theorem dX2_countWays_86 : decode cX2_countWays 86 = .ok (.iadd, 1) := by decide +kernel
theorem dX2_countWays_87 : decode cX2_countWays 87 = .ok (.iastore, 1) := by decide +kernel
theorem dX2_countWays_88 : decode cX2_countWays 88 = .ok (.iinc 4 (-1), 3) := by decide +kernel
theorem dX2_countWays_91 : decode cX2_countWays 91 = .ok (.goto (-45), 3) := by decide +kernel
theorem dX2_countWays_94 : decode cX2_countWays 94 = .ok (.iinc 3 1, 3) := by decide +kernel
theorem dX2_countWays_97 : decode cX2_countWays 97 = .ok (.goto (-65), 3) := by decide +kernel
theorem dX2_countWays_100 : decode cX2_countWays 100 = .ok (.aload_n 0, 1) := by decide +kernel
theorem dX2_countWays_101 : decode cX2_countWays 101 = .ok (.getfield 19, 3) := by decide +kernel
theorem dX2_countWays_104 : decode cX2_countWays 104 = .ok (.aload_n 2, 1) := by decide +kernel
theorem dX2_countWays_105 : decode cX2_countWays 105 = .ok (.getfield 27, 3) := by decide +kernel
theorem dX2_countWays_108 : decode cX2_countWays 108 = .ok (.iaload, 1) := by decide +kernel
theorem dX2_countWays_109 : decode cX2_countWays 109 = .ok (.ireturn, 1) := by decide +kernel
theorem dX3_init_0 : decode cX3_init 0 = .ok (.aload_n 0, 1) := by decide +kernel
theorem dX3_init_1 : decode cX3_init 1 = .ok (.invokespecial 3, 3) := by decide +kernel
theorem dX3_init_4 : decode cX3_init 4 = .ok (.aload_n 0, 1) := by decide +kernel
theorem dX3_init_5 : decode cX3_init 5 = .ok (.bipush 8, 2) := by decide +kernel
theorem dX3_init_7 : decode cX3_init 7 = .ok (.anewarray 9, 3) := by decide +kernel
theorem dX3_init_10 : decode cX3_init 10 = .ok (.putfield 11, 3) := by decide +kernel
theorem dX3_init_13 : decode cX3_init 13 = .ok (.aload_n 0, 1) := by decide +kernel
theorem dX3_init_14 : decode cX3_init 14 = .ok (.iconst 0, 1) := by decide +kernel
theorem dX3_init_15 : decode cX3_init 15 = .ok (.putfield 17, 3) := by decide +kernel
theorem dX3_init_18 : decode cX3_init 18 = .ok (.aload_n 0, 1) := by decide +kernel
theorem dX3_init_19 : decode cX3_init 19 = .ok (.iconst 0, 1) := by decide +kernel
theorem dX3_init_20 : decode cX3_init 20 = .ok (.putfield 21, 3) := by decide +kernel
theorem dX3_init_23 : decode cX3_init 23 = .ok (.iconst 0, 1) := by decide +kernel
theorem dX3_init_24 : decode cX3_init 24 = .ok (.istore_n 1, 1) := by decide +kernel
theorem dX3_init_25 : decode cX3_init 25 = .ok (.iload_n 1, 1) := by decide +kernel
theorem dX3_init_26 : decode cX3_init 26 = .ok (.bipush 8, 2) := by decide +kernel
theorem dX3_init_28 : decode cX3_init 28 = .ok (.if_icmp .ge 22, 3) := by decide +kernel
theorem dX3_init_31 : decode cX3_init 31 = .ok (.aload_n 0, 1) := by decide +kernel
theorem dX3_init_32 : decode cX3_init 32 = .ok (.getfield 11, 3) := by decide +kernel
theorem dX3_init_35 : decode cX3_init 35 = .ok (.iload_n 1, 1) := by decide +kernel
theorem dX3_init_36 : decode cX3_init 36 = .ok (.new 9, 3) := by decide +kernel
theorem dX3_init_39 : decode cX3_init 39 = .ok (.dup, 1) := by decide +kernel
theorem dX3_init_40 : decode cX3_init 40 = .ok (.invokespecial 24, 3) := by decide +kernel
theorem dX3_init_43 : decode cX3_init 43 = .ok (.aastore, 1) := by decide +kernel
theorem dX3_init_44 : decode cX3_init 44 = .ok (.iinc 1 1, 3) := by decide +kernel
theorem dX3_init_47 : decode cX3_init 47 = .ok (.goto (-22), 3) := by decide +kernel
theorem dX3_init_50 : decode cX3_init 50 = .ok (.return_, 1) := by decide +kernel
theorem dX3_has_0 : decode cX3_has 0 = .ok (.iload_n 1, 1) := by decide +kernel
theorem dX3_has_1 : decode cX3_has 1 = .ok (.ifCond .lt 15, 3) := by decide +kernel
theorem dX3_has_4 : decode cX3_has 4 = .ok (.iload_n 1, 1) := by decide +kernel
theorem dX3_has_5 : decode cX3_has 5 = .ok (.aload_n 0, 1) := by decide +kernel
theorem dX3_has_6 : decode cX3_has 6 = .ok (.getfield 17, 3) := by decide +kernel
theorem dX3_has_9 : decode cX3_has 9 = .ok (.if_icmp .ge 7, 3) := by decide +kernel
theorem dX3_has_12 : decode cX3_has 12 = .ok (.iconst 1, 1) := by decide +kernel
theorem dX3_has_13 : decode cX3_has 13 = .ok (.goto 4, 3) := by decide +kernel
theorem dX3_has_16 : decode cX3_has 16 = .ok (.iconst 0, 1) := by decide +kernel
theorem dX3_has_17 : decode cX3_has 17 = .ok (.ireturn, 1) := by decide +kernel
theorem dX3_clear_0 : decode cX3_clear 0 = .ok (.aload_n 0, 1) := by decide +kernel
theorem dX3_clear_1 : decode cX3_clear 1 = .ok (.iconst 0, 1) := by decide +kernel
theorem dX3_clear_2 : decode cX3_clear 2 = .ok (.putfield 17, 3) := by decide +kernel
theorem dX3_clear_5 : decode cX3_clear 5 = .ok (.return_, 1) := by decide +kernel
theorem dX3_addName_0 : decode cX3_addName 0 = .ok (.aload_n 0, 1) := by decide +kernel
theorem dX3_addName_1 : decode cX3_addName 1 = .ok (.getfield 11, 3) := by decide +kernel
theorem dX3_addName_4 : decode cX3_addName 4 = .ok (.aload_n 0, 1) := by decide +kernel
theorem dX3_addName_5 : decode cX3_addName 5 = .ok (.getfield 17, 3) := by decide +kernel
theorem dX3_addName_8 : decode cX3_addName 8 = .ok (.aaload, 1) := by decide +kernel
theorem dX3_addName_9 : decode cX3_addName 9 = .ok (.astore_n 2, 1) := by decide +kernel
theorem dX3_addName_10 : decode cX3_addName 10 = .ok (.aload_n 2, 1) := by decide +kernel
theorem dX3_addName_11 : decode cX3_addName 11 = .ok (.iload_n 1, 1) := by decide +kernel
theorem dX3_addName_12 : decode cX3_addName 12 = .ok (.aload_n 0, 1) := by decide +kernel
theorem dX3_addName_13 : decode cX3_addName 13 = .ok (.getfield 21, 3) := by decide +kernel
theorem dX3_addName_16 : decode cX3_addName 16 = .ok (.invokevirtual 25, 3) := by decide +kernel
theorem dX3_addName_19 : decode cX3_addName 19 = .ok (.aload_n 0, 1) := by decide +kernel
theorem dX3_addName_20 : decode cX3_addName 20 = .ok (.dup, 1) := by decide +kernel
theorem dX3_addName_21 : decode cX3_addName 21 = .ok (.getfield 17, 3) := by decide +kernel
theorem dX3_addName_24 : decode cX3_addName 24 = .ok (.iconst 1, 1) := by decide +kernel
theorem dX3_addName_25 : decode cX3_addName 25 = .ok (.iadd, 1) := by decide +kernel
theorem dX3_addName_26 : decode cX3_addName 26 = .ok (.putfield 17, 3) := by decide +kernel
theorem dX3_addName_29 : decode cX3_addName 29 = .ok (.aload_n 0, 1) := by decide +kernel
theorem dX3_addName_30 : decode cX3_addName 30 = .ok (.dup, 1) := by decide +kernel
theorem dX3_addName_31 : decode cX3_addName 31 = .ok (.getfield 21, 3) := by decide +kernel
theorem dX3_addName_34 : decode cX3_addName 34 = .ok (.iconst 1, 1) := by decide +kernel
theorem dX3_addName_35 : decode cX3_addName 35 = .ok (.iadd, 1) := by decide +kernel
theorem dX3_addName_36 : decode cX3_addName 36 = .ok (.putfield 21, 3) := by decide +kernel
theorem dX3_addName_39 : decode cX3_addName 39 = .ok (.aload_n 2, 1) := by decide +kernel
theorem dX3_addName_40 : decode cX3_addName 40 = .ok (.areturn, 1) := by decide +kernel
theorem dX3_remove_0 : decode cX3_remove 0 = .ok (.aload_n 0, 1) := by decide +kernel
theorem dX3_remove_1 : decode cX3_remove 1 = .ok (.getfield 11, 3) := by decide +kernel
theorem dX3_remove_4 : decode cX3_remove 4 = .ok (.iload_n 1, 1) := by decide +kernel
theorem dX3_remove_5 : decode cX3_remove 5 = .ok (.aaload, 1) := by decide +kernel
theorem dX3_remove_6 : decode cX3_remove 6 = .ok (.astore_n 2, 1) := by decide +kernel
theorem dX3_remove_7 : decode cX3_remove 7 = .ok (.iload_n 1, 1) := by decide +kernel
theorem dX3_remove_8 : decode cX3_remove 8 = .ok (.iconst 1, 1) := by decide +kernel
theorem dX3_remove_9 : decode cX3_remove 9 = .ok (.iadd, 1) := by decide +kernel
theorem dX3_remove_10 : decode cX3_remove 10 = .ok (.istore_n 3, 1) := by decide +kernel
theorem dX3_remove_11 : decode cX3_remove 11 = .ok (.iload_n 3, 1) := by decide +kernel
theorem dX3_remove_12 : decode cX3_remove 12 = .ok (.aload_n 0, 1) := by decide +kernel
theorem dX3_remove_13 : decode cX3_remove 13 = .ok (.getfield 17, 3) := by decide +kernel
theorem dX3_remove_16 : decode cX3_remove 16 = .ok (.if_icmp .ge 23, 3) := by decide +kernel
theorem dX3_remove_19 : decode cX3_remove 19 = .ok (.aload_n 0, 1) := by decide +kernel
theorem dX3_remove_20 : decode cX3_remove 20 = .ok (.getfield 11, 3) := by decide +kernel
theorem dX3_remove_23 : decode cX3_remove 23 = .ok (.iload_n 3, 1) := by decide +kernel
theorem dX3_remove_24 : decode cX3_remove 24 = .ok (.iconst 1, 1) := by decide +kernel
theorem dX3_remove_25 : decode cX3_remove 25 = .ok (.isub, 1) := by decide +kernel
theorem dX3_remove_26 : decode cX3_remove 26 = .ok (.aload_n 0, 1) := by decide +kernel
theorem dX3_remove_27 : decode cX3_remove 27 = .ok (.getfield 11, 3) := by decide +kernel
theorem dX3_remove_30 : decode cX3_remove 30 = .ok (.iload_n 3, 1) := by decide +kernel
theorem dX3_remove_31 : decode cX3_remove 31 = .ok (.aaload, 1) := by decide +kernel
theorem dX3_remove_32 : decode cX3_remove 32 = .ok (.aastore, 1) := by decide +kernel
theorem dX3_remove_33 : decode cX3_remove 33 = .ok (.iinc 3 1, 3) := by decide +kernel
theorem dX3_remove_36 : decode cX3_remove 36 = .ok (.goto (-25), 3) := by decide +kernel
theorem dX3_remove_39 : decode cX3_remove 39 = .ok (.aload_n 0, 1) := by decide +kernel
theorem dX3_remove_40 : decode cX3_remove 40 = .ok (.dup, 1) := by decide +kernel
theorem dX3_remove_41 : decode cX3_remove 41 = .ok (.getfield 17, 3) := by decide +kernel
theorem dX3_remove_44 : decode cX3_remove 44 = .ok (.iconst 1, 1) := by decide +kernel
theorem dX3_remove_45 : decode cX3_remove 45 = .ok (.isub, 1) := by decide +kernel
theorem dX3_remove_46 : decode cX3_remove 46 = .ok (.putfield 17, 3) := by decide +kernel
theorem dX3_remove_49 : decode cX3_remove 49 = .ok (.aload_n 0, 1) := by decide +kernel
theorem dX3_remove_50 : decode cX3_remove 50 = .ok (.getfield 11, 3) := by decide +kernel
theorem dX3_remove_53 : decode cX3_remove 53 = .ok (.aload_n 0, 1) := by decide +kernel
theorem dX3_remove_54 : decode cX3_remove 54 = .ok (.getfield 17, 3) := by decide +kernel
theorem dX3_remove_57 : decode cX3_remove 57 = .ok (.aload_n 2, 1) := by decide +kernel
theorem dX3_remove_58 : decode cX3_remove 58 = .ok (.aastore, 1) := by decide +kernel
theorem dX3_remove_59 : decode cX3_remove 59 = .ok (.return_, 1) := by decide +kernel
theorem dX4_init_0 : decode cX4_init 0 = .ok (.aload_n 0, 1) := by decide +kernel
theorem dX4_init_1 : decode cX4_init 1 = .ok (.invokespecial 3, 3) := by decide +kernel
theorem dX4_init_4 : decode cX4_init 4 = .ok (.aload_n 0, 1) := by decide +kernel
theorem dX4_init_5 : decode cX4_init 5 = .ok (.bipush 12, 2) := by decide +kernel
theorem dX4_init_7 : decode cX4_init 7 = .ok (.newarray .char, 2) := by decide +kernel
theorem dX4_init_9 : decode cX4_init 9 = .ok (.putfield 9, 3) := by decide +kernel
theorem dX4_init_12 : decode cX4_init 12 = .ok (.aload_n 0, 1) := by decide +kernel
theorem dX4_init_13 : decode cX4_init 13 = .ok (.iconst 0, 1) := by decide +kernel
theorem dX4_init_14 : decode cX4_init 14 = .ok (.putfield 15, 3) := by decide +kernel
theorem dX4_init_17 : decode cX4_init 17 = .ok (.aload_n 0, 1) := by decide +kernel
theorem dX4_init_18 : decode cX4_init 18 = .ok (.iconst 0, 1) := by decide +kernel
theorem dX4_init_19 : decode cX4_init 19 = .ok (.putfield 19, 3) := by decide +kernel
theorem dX4_init_22 : decode cX4_init 22 = .ok (.aload_n 0, 1) := by decide +kernel
theorem dX4_init_23 : decode cX4_init 23 = .ok (.iconst 0, 1) := by decide +kernel
theorem dX4_init_24 : decode cX4_init 24 = .ok (.putfield 22, 3) := by decide +kernel
theorem dX4_init_27 : decode cX4_init 27 = .ok (.aload_n 0, 1) := by decide +kernel
theorem dX4_init_28 : decode cX4_init 28 = .ok (.iconst 0, 1) := by decide +kernel
theorem dX4_init_29 : decode cX4_init 29 = .ok (.putfield 25, 3) := by decide +kernel
theorem dX4_init_32 : decode cX4_init 32 = .ok (.aload_n 0, 1) := by decide +kernel
theorem dX4_init_33 : decode cX4_init 33 = .ok (.iconst 0, 1) := by decide +kernel
theorem dX4_init_34 : decode cX4_init 34 = .ok (.putfield 28, 3) := by decide +kernel
theorem dX4_init_37 : decode cX4_init 37 = .ok (.aload_n 0, 1) := by decide +kernel
theorem dX4_init_38 : decode cX4_init 38 = .ok (.iconst 0, 1) := by decide +kernel
theorem dX4_init_39 : decode cX4_init 39 = .ok (.putfield 31, 3) := by decide +kernel
theorem dX4_init_42 : decode cX4_init 42 = .ok (.return_, 1) := by decide +kernel
theorem dX4_reset_0 : decode cX4_reset 0 = .ok (.aload_n 0, 1) := by decide +kernel
theorem dX4_reset_1 : decode cX4_reset 1 = .ok (.iconst 0, 1) := by decide +kernel
theorem dX4_reset_2 : decode cX4_reset 2 = .ok (.putfield 15, 3) := by decide +kernel
theorem dX4_reset_5 : decode cX4_reset 5 = .ok (.aload_n 0, 1) := by decide +kernel
theorem dX4_reset_6 : decode cX4_reset 6 = .ok (.iload_n 1, 1) := by decide +kernel
theorem dX4_reset_7 : decode cX4_reset 7 = .ok (.putfield 19, 3) := by decide +kernel
theorem dX4_reset_10 : decode cX4_reset 10 = .ok (.aload_n 0, 1) := by decide +kernel
theorem dX4_reset_11 : decode cX4_reset 11 = .ok (.iload_n 2, 1) := by decide +kernel
theorem dX4_reset_12 : decode cX4_reset 12 = .ok (.putfield 22, 3) := by decide +kernel
theorem dX4_reset_15 : decode cX4_reset 15 = .ok (.aload_n 0, 1) := by decide +kernel
theorem dX4_reset_16 : decode cX4_reset 16 = .ok (.iconst 0, 1) := by decide +kernel
theorem dX4_reset_17 : decode cX4_reset 17 = .ok (.putfield 25, 3) := by decide +kernel
theorem dX4_reset_20 : decode cX4_reset 20 = .ok (.aload_n 0, 1) := by decide +kernel
theorem dX4_reset_21 : decode cX4_reset 21 = .ok (.iconst 0, 1) := by decide +kernel
theorem dX4_reset_22 : decode cX4_reset 22 = .ok (.putfield 28, 3) := by decide +kernel
theorem dX4_reset_25 : decode cX4_reset 25 = .ok (.aload_n 0, 1) := by decide +kernel
theorem dX4_reset_26 : decode cX4_reset 26 = .ok (.iconst 0, 1) := by decide +kernel
theorem dX4_reset_27 : decode cX4_reset 27 = .ok (.putfield 31, 3) := by decide +kernel
theorem dX4_reset_30 : decode cX4_reset 30 = .ok (.return_, 1) := by decide +kernel
theorem dX4_addSign_0 : decode cX4_addSign 0 = .ok (.aload_n 0, 1) := by decide +kernel
theorem dX4_addSign_1 : decode cX4_addSign 1 = .ok (.getfield 15, 3) := by decide +kernel
theorem dX4_addSign_4 : decode cX4_addSign 4 = .ok (.bipush 12, 2) := by decide +kernel
theorem dX4_addSign_6 : decode cX4_addSign 6 = .ok (.if_icmp .lt 4, 3) := by decide +kernel
theorem dX4_addSign_9 : decode cX4_addSign 9 = .ok (.return_, 1) := by decide +kernel
theorem dX4_addSign_10 : decode cX4_addSign 10 = .ok (.aload_n 0, 1) := by decide +kernel
theorem dX4_addSign_11 : decode cX4_addSign 11 = .ok (.iload_n 1, 1) := by decide +kernel
theorem dX4_addSign_12 : decode cX4_addSign 12 = .ok (.invokevirtual 34, 3) := by decide +kernel
theorem dX4_addSign_15 : decode cX4_addSign 15 = .ok (.ifCond .eq 18, 3) := by decide +kernel
theorem dX4_addSign_18 : decode cX4_addSign 18 = .ok (.aload_n 0, 1) := by decide +kernel
theorem dX4_addSign_19 : decode cX4_addSign 19 = .ok (.dup, 1) := by decide +kernel
theorem dX4_addSign_20 : decode cX4_addSign 20 = .ok (.getfield 28, 3) := by decide +kernel
theorem dX4_addSign_23 : decode cX4_addSign 23 = .ok (.iconst 1, 1) := by decide +kernel
theorem dX4_addSign_24 : decode cX4_addSign 24 = .ok (.aload_n 0, 1) := by decide +kernel
theorem dX4_addSign_25 : decode cX4_addSign 25 = .ok (.getfield 15, 3) := by decide +kernel
theorem dX4_addSign_28 : decode cX4_addSign 28 = .ok (.ishl, 1) := by decide +kernel
theorem dX4_addSign_29 : decode cX4_addSign 29 = .ok (.ior, 1) := by decide +kernel
theorem dX4_addSign_30 : decode cX4_addSign 30 = .ok (.putfield 28, 3) := by decide +kernel
theorem dX4_addSign_33 : decode cX4_addSign 33 = .ok (.iload_n 1, 1) := by decide +kernel
theorem dX4_addSign_34 : decode cX4_addSign 34 = .ok (.invokestatic 38, 3) := by decide +kernel
theorem dX4_addSign_37 : decode cX4_addSign 37 = .ok (.ifCond .eq 18, 3) := by decide +kernel
theorem dX4_addSign_40 : decode cX4_addSign 40 = .ok (.aload_n 0, 1) := by decide +kernel
theorem dX4_addSign_41 : decode cX4_addSign 41 = .ok (.dup, 1) := by decide +kernel
theorem dX4_addSign_42 : decode cX4_addSign 42 = .ok (.getfield 31, 3) := by decide +kernel
theorem dX4_addSign_45 : decode cX4_addSign 45 = .ok (.iconst 1, 1) := by decide +kernel
theorem dX4_addSign_46 : decode cX4_addSign 46 = .ok (.iload_n 1, 1) := by decide +kernel
theorem dX4_addSign_47 : decode cX4_addSign 47 = .ok (.invokestatic 42, 3) := by decide +kernel
theorem dX4_addSign_50 : decode cX4_addSign 50 = .ok (.ishl, 1) := by decide +kernel
theorem dX4_addSign_51 : decode cX4_addSign 51 = .ok (.ior, 1) := by decide +kernel
theorem dX4_addSign_52 : decode cX4_addSign 52 = .ok (.putfield 31, 3) := by decide +kernel
theorem dX4_addSign_55 : decode cX4_addSign 55 = .ok (.aload_n 0, 1) := by decide +kernel
theorem dX4_addSign_56 : decode cX4_addSign 56 = .ok (.getfield 9, 3) := by decide +kernel
theorem dX4_addSign_59 : decode cX4_addSign 59 = .ok (.aload_n 0, 1) := by decide +kernel
theorem dX4_addSign_60 : decode cX4_addSign 60 = .ok (.getfield 15, 3) := by decide +kernel
theorem dX4_addSign_63 : decode cX4_addSign 63 = .ok (.iload_n 1, 1) := by decide +kernel
theorem dX4_addSign_64 : decode cX4_addSign 64 = .ok (.castore, 1) := by decide +kernel
theorem dX4_addSign_65 : decode cX4_addSign 65 = .ok (.aload_n 0, 1) := by decide +kernel
theorem dX4_addSign_66 : decode cX4_addSign 66 = .ok (.dup, 1) := by decide +kernel
theorem dX4_addSign_67 : decode cX4_addSign 67 = .ok (.getfield 15, 3) := by decide +kernel
theorem dX4_addSign_70 : decode cX4_addSign 70 = .ok (.iconst 1, 1) := by decide +kernel
theorem dX4_addSign_71 : decode cX4_addSign 71 = .ok (.iadd, 1) := by decide +kernel
theorem dX4_addSign_72 : decode cX4_addSign 72 = .ok (.putfield 15, 3) := by decide +kernel
theorem dX4_addSign_75 : decode cX4_addSign 75 = .ok (.return_, 1) := by decide +kernel
theorem dX4_wouldBegin_0 : decode cX4_wouldBegin 0 = .ok (.aload_n 0, 1) := by decide +kernel
theorem dX4_wouldBegin_1 : decode cX4_wouldBegin 1 = .ok (.getfield 15, 3) := by decide +kernel
theorem dX4_wouldBegin_4 : decode cX4_wouldBegin 4 = .ok (.ifCond .eq 10, 3) := by decide +kernel
theorem dX4_wouldBegin_7 : decode cX4_wouldBegin 7 = .ok (.iload_n 1, 1) := by decide +kernel
theorem dX4_wouldBegin_8 : decode cX4_wouldBegin 8 = .ok (.invokestatic 38, 3) := by decide +kernel
theorem dX4_wouldBegin_11 : decode cX4_wouldBegin 11 = .ok (.ifCond .ne 8, 3) := by decide +kernel
theorem dX4_wouldBegin_14 : decode cX4_wouldBegin 14 = .ok (.iload_n 1, 1) := by decide +kernel
theorem dX4_wouldBegin_15 : decode cX4_wouldBegin 15 = .ok (.invokestatic 38, 3) := by decide +kernel
theorem dX4_wouldBegin_18 : decode cX4_wouldBegin 18 = .ok (.ireturn, 1) := by decide +kernel
theorem dX4_wouldBegin_19 : decode cX4_wouldBegin 19 = .ok (.aload_n 0, 1) := by decide +kernel
theorem dX4_wouldBegin_20 : decode cX4_wouldBegin 20 = .ok (.getfield 9, 3) := by decide +kernel
theorem dX4_wouldBegin_23 : decode cX4_wouldBegin 23 = .ok (.aload_n 0, 1) := by decide +kernel
theorem dX4_wouldBegin_24 : decode cX4_wouldBegin 24 = .ok (.getfield 15, 3) := by decide +kernel
theorem dX4_wouldBegin_27 : decode cX4_wouldBegin 27 = .ok (.iconst 1, 1) := by decide +kernel
theorem dX4_wouldBegin_28 : decode cX4_wouldBegin 28 = .ok (.isub, 1) := by decide +kernel
theorem dX4_wouldBegin_29 : decode cX4_wouldBegin 29 = .ok (.caload, 1) := by decide +kernel
theorem dX4_wouldBegin_30 : decode cX4_wouldBegin 30 = .ok (.istore_n 2, 1) := by decide +kernel
theorem dX4_wouldBegin_31 : decode cX4_wouldBegin 31 = .ok (.iload_n 2, 1) := by decide +kernel
theorem dX4_wouldBegin_32 : decode cX4_wouldBegin 32 = .ok (.bipush 95, 2) := by decide +kernel
theorem dX4_wouldBegin_34 : decode cX4_wouldBegin 34 = .ok (.if_icmp .eq 17, 3) := by decide +kernel
theorem dX4_wouldBegin_37 : decode cX4_wouldBegin 37 = .ok (.iload_n 1, 1) := by decide +kernel
theorem dX4_wouldBegin_38 : decode cX4_wouldBegin 38 = .ok (.invokestatic 46, 3) := by decide +kernel
theorem dX4_wouldBegin_41 : decode cX4_wouldBegin 41 = .ok (.ifCond .eq 14, 3) := by decide +kernel
theorem dX4_wouldBegin_44 : decode cX4_wouldBegin 44 = .ok (.iload_n 2, 1) := by decide +kernel
theorem dX4_wouldBegin_45 : decode cX4_wouldBegin 45 = .ok (.invokestatic 49, 3) := by decide +kernel
theorem dX4_wouldBegin_48 : decode cX4_wouldBegin 48 = .ok (.ifCond .eq 7, 3) := by decide +kernel
theorem dX4_wouldBegin_51 : decode cX4_wouldBegin 51 = .ok (.iconst 1, 1) := by decide +kernel
theorem dX4_wouldBegin_52 : decode cX4_wouldBegin 52 = .ok (.goto 4, 3) := by decide +kernel
theorem dX4_wouldBegin_55 : decode cX4_wouldBegin 55 = .ok (.iconst 0, 1) := by decide +kernel
theorem dX4_wouldBegin_56 : decode cX4_wouldBegin 56 = .ok (.ireturn, 1) := by decide +kernel
theorem dX4_isAlike_0 : decode cX4_isAlike 0 = .ok (.aload_n 0, 1) := by decide +kernel
theorem dX4_isAlike_1 : decode cX4_isAlike 1 = .ok (.getfield 9, 3) := by decide +kernel
theorem dX4_isAlike_4 : decode cX4_isAlike 4 = .ok (.iload_n 1, 1) := by decide +kernel
theorem dX4_isAlike_5 : decode cX4_isAlike 5 = .ok (.caload, 1) := by decide +kernel
theorem dX4_isAlike_6 : decode cX4_isAlike 6 = .ok (.istore_n 3, 1) := by decide +kernel
theorem dX4_isAlike_7 : decode cX4_isAlike 7 = .ok (.iload_n 3, 1) := by decide +kernel
theorem dX4_isAlike_8 : decode cX4_isAlike 8 = .ok (.iload_n 2, 1) := by decide +kernel
theorem dX4_isAlike_9 : decode cX4_isAlike 9 = .ok (.if_icmp .ne 5, 3) := by decide +kernel
theorem dX4_isAlike_12 : decode cX4_isAlike 12 = .ok (.iconst 1, 1) := by decide +kernel
theorem dX4_isAlike_13 : decode cX4_isAlike 13 = .ok (.ireturn, 1) := by decide +kernel
theorem dX4_isAlike_14 : decode cX4_isAlike 14 = .ok (.aload_n 0, 1) := by decide +kernel
theorem dX4_isAlike_15 : decode cX4_isAlike 15 = .ok (.getfield 19, 3) := by decide +kernel
theorem dX4_isAlike_18 : decode cX4_isAlike 18 = .ok (.iconst 1, 1) := by decide +kernel
theorem dX4_isAlike_19 : decode cX4_isAlike 19 = .ok (.if_icmp .eq 25, 3) := by decide +kernel
theorem dX4_isAlike_22 : decode cX4_isAlike 22 = .ok (.iload_n 3, 1) := by decide +kernel
theorem dX4_isAlike_23 : decode cX4_isAlike 23 = .ok (.invokestatic 38, 3) := by decide +kernel
theorem dX4_isAlike_26 : decode cX4_isAlike 26 = .ok (.ifCond .eq 18, 3) := by decide +kernel
theorem dX4_isAlike_29 : decode cX4_isAlike 29 = .ok (.iload_n 3, 1) := by decide +kernel
theorem dX4_isAlike_30 : decode cX4_isAlike 30 = .ok (.invokestatic 42, 3) := by decide +kernel
theorem dX4_isAlike_33 : decode cX4_isAlike 33 = .ok (.iload_n 2, 1) := by decide +kernel
theorem dX4_isAlike_34 : decode cX4_isAlike 34 = .ok (.invokestatic 42, 3) := by decide +kernel
theorem dX4_isAlike_37 : decode cX4_isAlike 37 = .ok (.if_icmp .ne 7, 3) := by decide +kernel
theorem dX4_isAlike_40 : decode cX4_isAlike 40 = .ok (.iconst 1, 1) := by decide +kernel
theorem dX4_isAlike_41 : decode cX4_isAlike 41 = .ok (.goto 4, 3) := by decide +kernel
theorem dX4_isAlike_44 : decode cX4_isAlike 44 = .ok (.iconst 0, 1) := by decide +kernel
theorem dX4_isAlike_45 : decode cX4_isAlike 45 = .ok (.ireturn, 1) := by decide +kernel
theorem dX4_hasAll_0 : decode cX4_hasAll 0 = .ok (.aload_n 1, 1) := by decide +kernel
theorem dX4_hasAll_1 : decode cX4_hasAll 1 = .ok (.invokevirtual 52, 3) := by decide +kernel
theorem dX4_hasAll_4 : decode cX4_hasAll 4 = .ok (.aload_n 0, 1) := by decide +kernel
theorem dX4_hasAll_5 : decode cX4_hasAll 5 = .ok (.getfield 31, 3) := by decide +kernel
theorem dX4_hasAll_8 : decode cX4_hasAll 8 = .ok (.iconst (-1), 1) := by decide +kernel
theorem dX4_hasAll_9 : decode cX4_hasAll 9 = .ok (.ixor, 1) := by decide +kernel
theorem dX4_hasAll_10 : decode cX4_hasAll 10 = .ok (.iand, 1) := by decide +kernel
theorem dX4_hasAll_11 : decode cX4_hasAll 11 = .ok (.ifCond .ne 7, 3) := by decide +kernel
theorem dX4_hasAll_14 : decode cX4_hasAll 14 = .ok (.iconst 1, 1) := by decide +kernel
theorem dX4_hasAll_15 : decode cX4_hasAll 15 = .ok (.goto 4, 3) := by decide +kernel
theorem dX4_hasAll_18 : decode cX4_hasAll 18 = .ok (.iconst 0, 1) := by decide +kernel
theorem dX4_hasAll_19 : decode cX4_hasAll 19 = .ok (.ireturn, 1) := by decide +kernel
theorem dX5_init_0 : decode cX5_init 0 = .ok (.aload_n 0, 1) := by decide +kernel
theorem dX5_init_1 : decode cX5_init 1 = .ok (.invokespecial 3, 3) := by decide +kernel
theorem dX5_init_4 : decode cX5_init 4 = .ok (.aload_n 0, 1) := by decide +kernel
theorem dX5_init_5 : decode cX5_init 5 = .ok (.bipush 8, 2) := by decide +kernel
theorem dX5_init_7 : decode cX5_init 7 = .ok (.newarray .int, 2) := by decide +kernel
theorem dX5_init_9 : decode cX5_init 9 = .ok (.putfield 9, 3) := by decide +kernel
theorem dX5_init_12 : decode cX5_init 12 = .ok (.aload_n 0, 1) := by decide +kernel
theorem dX5_init_13 : decode cX5_init 13 = .ok (.bipush 8, 2) := by decide +kernel
theorem dX5_init_15 : decode cX5_init 15 = .ok (.newarray .int, 2) := by decide +kernel
theorem dX5_init_17 : decode cX5_init 17 = .ok (.putfield 15, 3) := by decide +kernel
theorem dX5_init_20 : decode cX5_init 20 = .ok (.aload_n 0, 1) := by decide +kernel
theorem dX5_init_21 : decode cX5_init 21 = .ok (.iconst 0, 1) := by decide +kernel
theorem dX5_init_22 : decode cX5_init 22 = .ok (.putfield 18, 3) := by decide +kernel
theorem dX5_init_25 : decode cX5_init 25 = .ok (.return_, 1) := by decide +kernel
theorem dX5_rank_0 : decode cX5_rank 0 = .ok (.aload_n 0, 1) := by decide +kernel
theorem dX5_rank_1 : decode cX5_rank 1 = .ok (.iconst 0, 1) := by decide +kernel
theorem dX5_rank_2 : decode cX5_rank 2 = .ok (.putfield 18, 3) := by decide +kernel
theorem dX5_rank_5 : decode cX5_rank 5 = .ok (.iconst 0, 1) := by decide +kernel
theorem dX5_rank_6 : decode cX5_rank 6 = .ok (.istore_n 2, 1) := by decide +kernel
theorem dX5_rank_7 : decode cX5_rank 7 = .ok (.iload_n 2, 1) := by decide +kernel
theorem dX5_rank_8 : decode cX5_rank 8 = .ok (.aload_n 1, 1) := by decide +kernel
theorem dX5_rank_9 : decode cX5_rank 9 = .ok (.getfield 22, 3) := by decide +kernel
theorem dX5_rank_12 : decode cX5_rank 12 = .ok (.if_icmp .ge 26, 3) := by decide +kernel
theorem dX5_rank_15 : decode cX5_rank 15 = .ok (.aload_n 0, 1) := by decide +kernel
theorem dX5_rank_16 : decode cX5_rank 16 = .ok (.getfield 9, 3) := by decide +kernel
theorem dX5_rank_19 : decode cX5_rank 19 = .ok (.iload_n 2, 1) := by decide +kernel
theorem dX5_rank_20 : decode cX5_rank 20 = .ok (.iaload, 1) := by decide +kernel
theorem dX5_rank_21 : decode cX5_rank 21 = .ok (.bipush (-4), 2) := by decide +kernel
theorem dX5_rank_23 : decode cX5_rank 23 = .ok (.if_icmp .eq 9, 3) := by decide +kernel
theorem dX5_rank_26 : decode cX5_rank 26 = .ok (.aload_n 0, 1) := by decide +kernel
theorem dX5_rank_27 : decode cX5_rank 27 = .ok (.aload_n 1, 1) := by decide +kernel
theorem dX5_rank_28 : decode cX5_rank 28 = .ok (.iload_n 2, 1) := by decide +kernel
theorem dX5_rank_29 : decode cX5_rank 29 = .ok (.invokevirtual 25, 3) := by decide +kernel
theorem dX5_rank_32 : decode cX5_rank 32 = .ok (.iinc 2 1, 3) := by decide +kernel
theorem dX5_rank_35 : decode cX5_rank 35 = .ok (.goto (-28), 3) := by decide +kernel
theorem dX5_rank_38 : decode cX5_rank 38 = .ok (.return_, 1) := by decide +kernel
theorem dX5_insert_0 : decode cX5_insert 0 = .ok (.aload_n 0, 1) := by decide +kernel
theorem dX5_insert_1 : decode cX5_insert 1 = .ok (.getfield 18, 3) := by decide +kernel
theorem dX5_insert_4 : decode cX5_insert 4 = .ok (.istore_n 3, 1) := by decide +kernel
theorem dX5_insert_5 : decode cX5_insert 5 = .ok (.iload_n 3, 1) := by decide +kernel
theorem dX5_insert_6 : decode cX5_insert 6 = .ok (.ifCond .le 40, 3) := by decide +kernel
theorem dX5_insert_9 : decode cX5_insert 9 = .ok (.aload_n 0, 1) := by decide +kernel
theorem dX5_insert_10 : decode cX5_insert 10 = .ok (.aload_n 1, 1) := by decide +kernel
theorem dX5_insert_11 : decode cX5_insert 11 = .ok (.iload_n 2, 1) := by decide +kernel
theorem dX5_insert_12 : decode cX5_insert 12 = .ok (.aload_n 0, 1) := by decide +kernel
theorem dX5_insert_13 : decode cX5_insert 13 = .ok (.getfield 15, 3) := by decide +kernel
theorem dX5_insert_16 : decode cX5_insert 16 = .ok (.iload_n 3, 1) := by decide +kernel
theorem dX5_insert_17 : decode cX5_insert 17 = .ok (.iconst 1, 1) := by decide +kernel
theorem dX5_insert_18 : decode cX5_insert 18 = .ok (.isub, 1) := by decide +kernel
theorem dX5_insert_19 : decode cX5_insert 19 = .ok (.iaload, 1) := by decide +kernel
theorem dX5_insert_20 : decode cX5_insert 20 = .ok (.invokevirtual 29, 3) := by decide +kernel
theorem dX5_insert_23 : decode cX5_insert 23 = .ok (.ifCond .eq 23, 3) := by decide +kernel
theorem dX5_insert_26 : decode cX5_insert 26 = .ok (.aload_n 0, 1) := by decide +kernel
theorem dX5_insert_27 : decode cX5_insert 27 = .ok (.getfield 15, 3) := by decide +kernel
theorem dX5_insert_30 : decode cX5_insert 30 = .ok (.iload_n 3, 1) := by decide +kernel
theorem dX5_insert_31 : decode cX5_insert 31 = .ok (.aload_n 0, 1) := by decide +kernel
theorem dX5_insert_32 : decode cX5_insert 32 = .ok (.getfield 15, 3) := by decide +kernel
theorem dX5_insert_35 : decode cX5_insert 35 = .ok (.iload_n 3, 1) := by decide +kernel
theorem dX5_insert_36 : decode cX5_insert 36 = .ok (.iconst 1, 1) := by decide +kernel
theorem dX5_insert_37 : decode cX5_insert 37 = .ok (.isub, 1) := by decide +kernel
theorem dX5_insert_38 : decode cX5_insert 38 = .ok (.iaload, 1) := by decide +kernel
theorem dX5_insert_39 : decode cX5_insert 39 = .ok (.iastore, 1) := by decide +kernel
theorem dX5_insert_40 : decode cX5_insert 40 = .ok (.iinc 3 (-1), 3) := by decide +kernel
theorem dX5_insert_43 : decode cX5_insert 43 = .ok (.goto (-38), 3) := by decide +kernel
theorem dX5_insert_46 : decode cX5_insert 46 = .ok (.aload_n 0, 1) := by decide +kernel
theorem dX5_insert_47 : decode cX5_insert 47 = .ok (.getfield 15, 3) := by decide +kernel
theorem dX5_insert_50 : decode cX5_insert 50 = .ok (.iload_n 3, 1) := by decide +kernel
theorem dX5_insert_51 : decode cX5_insert 51 = .ok (.iload_n 2, 1) := by decide +kernel
theorem dX5_insert_52 : decode cX5_insert 52 = .ok (.iastore, 1) := by decide +kernel
theorem dX5_insert_53 : decode cX5_insert 53 = .ok (.aload_n 0, 1) := by decide +kernel
theorem dX5_insert_54 : decode cX5_insert 54 = .ok (.dup, 1) := by decide +kernel
theorem dX5_insert_55 : decode cX5_insert 55 = .ok (.getfield 18, 3) := by decide +kernel
theorem dX5_insert_58 : decode cX5_insert 58 = .ok (.iconst 1, 1) := by decide +kernel
theorem dX5_insert_59 : decode cX5_insert 59 = .ok (.iadd, 1) := by decide +kernel
theorem dX5_insert_60 : decode cX5_insert 60 = .ok (.putfield 18, 3) := by decide +kernel
theorem dX5_insert_63 : decode cX5_insert 63 = .ok (.return_, 1) := by decide +kernel
theorem dX5_isFirst_0 : decode cX5_isFirst 0 = .ok (.aload_n 0, 1) := by decide +kernel
theorem dX5_isFirst_1 : decode cX5_isFirst 1 = .ok (.getfield 9, 3) := by decide +kernel
theorem dX5_isFirst_4 : decode cX5_isFirst 4 = .ok (.iload_n 2, 1) := by decide +kernel
theorem dX5_isFirst_5 : decode cX5_isFirst 5 = .ok (.iaload, 1) := by decide +kernel
theorem dX5_isFirst_6 : decode cX5_isFirst 6 = .ok (.bipush (-4), 2) := by decide +kernel
theorem dX5_isFirst_8 : decode cX5_isFirst 8 = .ok (.if_icmp .ne 5, 3) := by decide +kernel
theorem dX5_isFirst_11 : decode cX5_isFirst 11 = .ok (.iconst 0, 1) := by decide +kernel
theorem dX5_isFirst_12 : decode cX5_isFirst 12 = .ok (.ireturn, 1) := by decide +kernel
theorem dX5_isFirst_13 : decode cX5_isFirst 13 = .ok (.iconst 0, 1) := by decide +kernel
theorem dX5_isFirst_14 : decode cX5_isFirst 14 = .ok (.istore_n 3, 1) := by decide +kernel
theorem dX5_isFirst_15 : decode cX5_isFirst 15 = .ok (.iload_n 3, 1) := by decide +kernel
theorem dX5_isFirst_16 : decode cX5_isFirst 16 = .ok (.aload_n 1, 1) := by decide +kernel
theorem dX5_isFirst_17 : decode cX5_isFirst 17 = .ok (.getfield 22, 3) := by decide +kernel
theorem dX5_isFirst_20 : decode cX5_isFirst 20 = .ok (.if_icmp .ge 37, 3) := by decide +kernel
theorem dX5_isFirst_23 : decode cX5_isFirst 23 = .ok (.iload_n 3, 1) := by decide +kernel
theorem dX5_isFirst_24 : decode cX5_isFirst 24 = .ok (.iload_n 2, 1) := by decide +kernel
theorem dX5_isFirst_25 : decode cX5_isFirst 25 = .ok (.if_icmp .eq 26, 3) := by decide +kernel
theorem dX5_isFirst_28 : decode cX5_isFirst 28 = .ok (.aload_n 0, 1) := by decide +kernel
theorem dX5_isFirst_29 : decode cX5_isFirst 29 = .ok (.getfield 9, 3) := by decide +kernel
theorem dX5_isFirst_32 : decode cX5_isFirst 32 = .ok (.iload_n 3, 1) := by decide +kernel
theorem dX5_isFirst_33 : decode cX5_isFirst 33 = .ok (.iaload, 1) := by decide +kernel
theorem dX5_isFirst_34 : decode cX5_isFirst 34 = .ok (.bipush (-4), 2) := by decide +kernel
theorem dX5_isFirst_36 : decode cX5_isFirst 36 = .ok (.if_icmp .eq 15, 3) := by decide +kernel
theorem dX5_isFirst_39 : decode cX5_isFirst 39 = .ok (.aload_n 0, 1) := by decide +kernel
theorem dX5_isFirst_40 : decode cX5_isFirst 40 = .ok (.aload_n 1, 1) := by decide +kernel
theorem dX5_isFirst_41 : decode cX5_isFirst 41 = .ok (.iload_n 3, 1) := by decide +kernel
theorem dX5_isFirst_42 : decode cX5_isFirst 42 = .ok (.iload_n 2, 1) := by decide +kernel
theorem dX5_isFirst_43 : decode cX5_isFirst 43 = .ok (.invokevirtual 29, 3) := by decide +kernel
theorem dX5_isFirst_46 : decode cX5_isFirst 46 = .ok (.ifCond .eq 5, 3) := by decide +kernel
theorem dX5_isFirst_49 : decode cX5_isFirst 49 = .ok (.iconst 0, 1) := by decide +kernel
theorem dX5_isFirst_50 : decode cX5_isFirst 50 = .ok (.ireturn, 1) := by decide +kernel
theorem dX5_isFirst_51 : decode cX5_isFirst 51 = .ok (.iinc 3 1, 3) := by decide +kernel
theorem dX5_isFirst_54 : decode cX5_isFirst 54 = .ok (.goto (-39), 3) := by decide +kernel
theorem dX5_isFirst_57 : decode cX5_isFirst 57 = .ok (.iconst 1, 1) := by decide +kernel
theorem dX5_isFirst_58 : decode cX5_isFirst 58 = .ok (.ireturn, 1) := by decide +kernel
theorem dX5_isAhead_0 : decode cX5_isAhead 0 = .ok (.aload_n 0, 1) := by decide +kernel
theorem dX5_isAhead_1 : decode cX5_isAhead 1 = .ok (.getfield 9, 3) := by decide +kernel
theorem dX5_isAhead_4 : decode cX5_isAhead 4 = .ok (.iload_n 2, 1) := by decide +kernel
theorem dX5_isAhead_5 : decode cX5_isAhead 5 = .ok (.iaload, 1) := by decide +kernel
theorem dX5_isAhead_6 : decode cX5_isAhead 6 = .ok (.aload_n 0, 1) := by decide +kernel
theorem dX5_isAhead_7 : decode cX5_isAhead 7 = .ok (.getfield 9, 3) := by decide +kernel
theorem dX5_isAhead_10 : decode cX5_isAhead 10 = .ok (.iload_n 3, 1) := by decide +kernel
theorem dX5_isAhead_11 : decode cX5_isAhead 11 = .ok (.iaload, 1) := by decide +kernel
theorem dX5_isAhead_12 : decode cX5_isAhead 12 = .ok (.if_icmp .eq 24, 3) := by decide +kernel
theorem dX5_isAhead_15 : decode cX5_isAhead 15 = .ok (.aload_n 0, 1) := by decide +kernel
theorem dX5_isAhead_16 : decode cX5_isAhead 16 = .ok (.getfield 9, 3) := by decide +kernel
theorem dX5_isAhead_19 : decode cX5_isAhead 19 = .ok (.iload_n 2, 1) := by decide +kernel
theorem dX5_isAhead_20 : decode cX5_isAhead 20 = .ok (.iaload, 1) := by decide +kernel
theorem dX5_isAhead_21 : decode cX5_isAhead 21 = .ok (.aload_n 0, 1) := by decide +kernel
theorem dX5_isAhead_22 : decode cX5_isAhead 22 = .ok (.getfield 9, 3) := by decide +kernel
theorem dX5_isAhead_25 : decode cX5_isAhead 25 = .ok (.iload_n 3, 1) := by decide +kernel
theorem dX5_isAhead_26 : decode cX5_isAhead 26 = .ok (.iaload, 1) := by decide +kernel
theorem dX5_isAhead_27 : decode cX5_isAhead 27 = .ok (.if_icmp .le 7, 3) := by decide +kernel
theorem dX5_isAhead_30 : decode cX5_isAhead 30 = .ok (.iconst 1, 1) := by decide +kernel
theorem dX5_isAhead_31 : decode cX5_isAhead 31 = .ok (.goto 4, 3) := by decide +kernel
theorem dX5_isAhead_34 : decode cX5_isAhead 34 = .ok (.iconst 0, 1) := by decide +kernel
theorem dX5_isAhead_35 : decode cX5_isAhead 35 = .ok (.ireturn, 1) := by decide +kernel
theorem dX5_isAhead_36 : decode cX5_isAhead 36 = .ok (.aload_n 1, 1) := by decide +kernel
theorem dX5_isAhead_37 : decode cX5_isAhead 37 = .ok (.getfield 33, 3) := by decide +kernel
theorem dX5_isAhead_40 : decode cX5_isAhead 40 = .ok (.iload_n 2, 1) := by decide +kernel
theorem dX5_isAhead_41 : decode cX5_isAhead 41 = .ok (.aaload, 1) := by decide +kernel
theorem dX5_isAhead_42 : decode cX5_isAhead 42 = .ok (.astore 4, 2) := by decide +kernel
theorem dX5_isAhead_44 : decode cX5_isAhead 44 = .ok (.aload_n 1, 1) := by decide +kernel
theorem dX5_isAhead_45 : decode cX5_isAhead 45 = .ok (.getfield 33, 3) := by decide +kernel
theorem dX5_isAhead_48 : decode cX5_isAhead 48 = .ok (.iload_n 3, 1) := by decide +kernel
theorem dX5_isAhead_49 : decode cX5_isAhead 49 = .ok (.aaload, 1) := by decide +kernel
theorem dX5_isAhead_50 : decode cX5_isAhead 50 = .ok (.astore 5, 2) := by decide +kernel
theorem dX5_isAhead_52 : decode cX5_isAhead 52 = .ok (.aload 4, 2) := by decide +kernel
theorem dX5_isAhead_54 : decode cX5_isAhead 54 = .ok (.getfield 37, 3) := by decide +kernel
theorem dX5_isAhead_57 : decode cX5_isAhead 57 = .ok (.aload 5, 2) := by decide +kernel
theorem dX5_isAhead_59 : decode cX5_isAhead 59 = .ok (.getfield 37, 3) := by decide +kernel
theorem dX5_isAhead_62 : decode cX5_isAhead 62 = .ok (.if_icmp .eq 22, 3) := by decide +kernel
theorem dX5_isAhead_65 : decode cX5_isAhead 65 = .ok (.aload 4, 2) := by decide +kernel
theorem dX5_isAhead_67 : decode cX5_isAhead 67 = .ok (.getfield 37, 3) := by decide +kernel
theorem dX5_isAhead_70 : decode cX5_isAhead 70 = .ok (.aload 5, 2) := by decide +kernel
theorem dX5_isAhead_72 : decode cX5_isAhead 72 = .ok (.getfield 37, 3) := by decide +kernel
theorem dX5_isAhead_75 : decode cX5_isAhead 75 = .ok (.if_icmp .le 7, 3) := by decide +kernel
theorem dX5_isAhead_78 : decode cX5_isAhead 78 = .ok (.iconst 1, 1) := by decide +kernel
theorem dX5_isAhead_79 : decode cX5_isAhead 79 = .ok (.goto 4, 3) := by decide +kernel
theorem dX5_isAhead_82 : decode cX5_isAhead 82 = .ok (.iconst 0, 1) := by decide +kernel
theorem dX5_isAhead_83 : decode cX5_isAhead 83 = .ok (.ireturn, 1) := by decide +kernel
theorem dX5_isAhead_84 : decode cX5_isAhead 84 = .ok (.aload 4, 2) := by decide +kernel
theorem dX5_isAhead_86 : decode cX5_isAhead 86 = .ok (.getfield 42, 3) := by decide +kernel
theorem dX5_isAhead_89 : decode cX5_isAhead 89 = .ok (.aload 5, 2) := by decide +kernel
theorem dX5_isAhead_91 : decode cX5_isAhead 91 = .ok (.getfield 42, 3) := by decide +kernel
theorem dX5_isAhead_94 : decode cX5_isAhead 94 = .ok (.if_icmp .eq 24, 3) := by decide +kernel
theorem dX5_isAhead_97 : decode cX5_isAhead 97 = .ok (.aload 4, 2) := by decide +kernel
theorem dX5_isAhead_99 : decode cX5_isAhead 99 = .ok (.getfield 42, 3) := by decide +kernel
theorem dX5_isAhead_102 : decode cX5_isAhead 102 = .ok (.aload 5, 2) := by decide +kernel
theorem dX5_isAhead_104 : decode cX5_isAhead 104 = .ok (.getfield 42, 3) := by decide +kernel
theorem dX5_isAhead_107 : decode cX5_isAhead 107 = .ok (.if_icmp .ge 7, 3) := by decide +kernel
theorem dX5_isAhead_110 : decode cX5_isAhead 110 = .ok (.iconst 1, 1) := by decide +kernel
theorem dX5_isAhead_111 : decode cX5_isAhead 111 = .ok (.goto 17, 3) := by decide +kernel
theorem dX5_isAhead_114 : decode cX5_isAhead 114 = .ok (.iconst 0, 1) := by decide +kernel
theorem dX5_isAhead_115 : decode cX5_isAhead 115 = .ok (.goto 13, 3) := by decide +kernel
theorem dX5_isAhead_118 : decode cX5_isAhead 118 = .ok (.iload_n 2, 1) := by decide +kernel
theorem dX5_isAhead_119 : decode cX5_isAhead 119 = .ok (.iload_n 3, 1) := by decide +kernel
theorem dX5_isAhead_120 : decode cX5_isAhead 120 = .ok (.if_icmp .ge 7, 3) := by decide +kernel
theorem dX5_isAhead_123 : decode cX5_isAhead 123 = .ok (.iconst 1, 1) := by decide +kernel
theorem dX5_isAhead_124 : decode cX5_isAhead 124 = .ok (.goto 4, 3) := by decide +kernel
theorem dX5_isAhead_127 : decode cX5_isAhead 127 = .ok (.iconst 0, 1) := by decide +kernel
theorem dX5_isAhead_128 : decode cX5_isAhead 128 = .ok (.ireturn, 1) := by decide +kernel
theorem dX6_init_0 : decode cX6_init 0 = .ok (.aload_n 0, 1) := by decide +kernel
theorem dX6_init_1 : decode cX6_init 1 = .ok (.invokespecial 3, 3) := by decide +kernel
theorem dX6_init_4 : decode cX6_init 4 = .ok (.aload_n 0, 1) := by decide +kernel
theorem dX6_init_5 : decode cX6_init 5 = .ok (.iconst 0, 1) := by decide +kernel
theorem dX6_init_6 : decode cX6_init 6 = .ok (.putfield 9, 3) := by decide +kernel
theorem dX6_init_9 : decode cX6_init 9 = .ok (.aload_n 0, 1) := by decide +kernel
theorem dX6_init_10 : decode cX6_init 10 = .ok (.iconst 0, 1) := by decide +kernel
theorem dX6_init_11 : decode cX6_init 11 = .ok (.putfield 15, 3) := by decide +kernel
theorem dX6_init_14 : decode cX6_init 14 = .ok (.aload_n 0, 1) := by decide +kernel
theorem dX6_init_15 : decode cX6_init 15 = .ok (.iconst 0, 1) := by decide +kernel
theorem dX6_init_16 : decode cX6_init 16 = .ok (.putfield 18, 3) := by decide +kernel
theorem dX6_init_19 : decode cX6_init 19 = .ok (.return_, 1) := by decide +kernel
theorem dX6_mayBe_0 : decode cX6_mayBe 0 = .ok (.iload_n 0, 1) := by decide +kernel
theorem dX6_mayBe_1 : decode cX6_mayBe 1 = .ok (.ifCond .lt 13, 3) := by decide +kernel
theorem dX6_mayBe_4 : decode cX6_mayBe 4 = .ok (.iload_n 0, 1) := by decide +kernel
theorem dX6_mayBe_5 : decode cX6_mayBe 5 = .ok (.bipush 9, 2) := by decide +kernel
theorem dX6_mayBe_7 : decode cX6_mayBe 7 = .ok (.if_icmp .gt 7, 3) := by decide +kernel
theorem dX6_mayBe_10 : decode cX6_mayBe 10 = .ok (.iconst 1, 1) := by decide +kernel
theorem dX6_mayBe_11 : decode cX6_mayBe 11 = .ok (.goto 4, 3) := by decide +kernel
theorem dX6_mayBe_14 : decode cX6_mayBe 14 = .ok (.iconst 0, 1) := by decide +kernel
theorem dX6_mayBe_15 : decode cX6_mayBe 15 = .ok (.ireturn, 1) := by decide +kernel
theorem dX6_setDefaults_0 : decode cX6_setDefaults 0 = .ok (.aload_n 0, 1) := by decide +kernel
theorem dX6_setDefaults_1 : decode cX6_setDefaults 1 = .ok (.iconst 3, 1) := by decide +kernel
theorem dX6_setDefaults_2 : decode cX6_setDefaults 2 = .ok (.iconst 2, 1) := by decide +kernel
theorem dX6_setDefaults_3 : decode cX6_setDefaults 3 = .ok (.iconst 1, 1) := by decide +kernel
theorem dX6_setDefaults_4 : decode cX6_setDefaults 4 = .ok (.invokevirtual 21, 3) := by decide +kernel
theorem dX6_setDefaults_7 : decode cX6_setDefaults 7 = .ok (.return_, 1) := by decide +kernel
theorem dX6_set_0 : decode cX6_set 0 = .ok (.aload_n 0, 1) := by decide +kernel
theorem dX6_set_1 : decode cX6_set 1 = .ok (.iload_n 1, 1) := by decide +kernel
theorem dX6_set_2 : decode cX6_set 2 = .ok (.putfield 9, 3) := by decide +kernel
theorem dX6_set_5 : decode cX6_set 5 = .ok (.aload_n 0, 1) := by decide +kernel
theorem dX6_set_6 : decode cX6_set 6 = .ok (.iload_n 2, 1) := by decide +kernel
theorem dX6_set_7 : decode cX6_set 7 = .ok (.putfield 15, 3) := by decide +kernel
theorem dX6_set_10 : decode cX6_set 10 = .ok (.aload_n 0, 1) := by decide +kernel
theorem dX6_set_11 : decode cX6_set 11 = .ok (.iload_n 3, 1) := by decide +kernel
theorem dX6_set_12 : decode cX6_set 12 = .ok (.putfield 18, 3) := by decide +kernel
theorem dX6_set_15 : decode cX6_set 15 = .ok (.return_, 1) := by decide +kernel
theorem dX6_are_0 : decode cX6_are 0 = .ok (.aload_n 0, 1) := by decide +kernel
theorem dX6_are_1 : decode cX6_are 1 = .ok (.getfield 9, 3) := by decide +kernel
theorem dX6_are_4 : decode cX6_are 4 = .ok (.iload_n 1, 1) := by decide +kernel
theorem dX6_are_5 : decode cX6_are 5 = .ok (.if_icmp .ne 23, 3) := by decide +kernel
theorem dX6_are_8 : decode cX6_are 8 = .ok (.aload_n 0, 1) := by decide +kernel
theorem dX6_are_9 : decode cX6_are 9 = .ok (.getfield 15, 3) := by decide +kernel
theorem dX6_are_12 : decode cX6_are 12 = .ok (.iload_n 2, 1) := by decide +kernel
theorem dX6_are_13 : decode cX6_are 13 = .ok (.if_icmp .ne 15, 3) := by decide +kernel
theorem dX6_are_16 : decode cX6_are 16 = .ok (.aload_n 0, 1) := by decide +kernel
theorem dX6_are_17 : decode cX6_are 17 = .ok (.getfield 18, 3) := by decide +kernel
theorem dX6_are_20 : decode cX6_are 20 = .ok (.iload_n 3, 1) := by decide +kernel
theorem dX6_are_21 : decode cX6_are 21 = .ok (.if_icmp .ne 7, 3) := by decide +kernel
theorem dX6_are_24 : decode cX6_are 24 = .ok (.iconst 1, 1) := by decide +kernel
theorem dX6_are_25 : decode cX6_are 25 = .ok (.goto 4, 3) := by decide +kernel
theorem dX6_are_28 : decode cX6_are 28 = .ok (.iconst 0, 1) := by decide +kernel
theorem dX6_are_29 : decode cX6_are 29 = .ok (.ireturn, 1) := by decide +kernel
theorem dX6_ofPlace_0 : decode cX6_ofPlace 0 = .ok (.aload_n 1, 1) := by decide +kernel
theorem dX6_ofPlace_1 : decode cX6_ofPlace 1 = .ok (.getfield 25, 3) := by decide +kernel
theorem dX6_ofPlace_4 : decode cX6_ofPlace 4 = .ok (.iconst 1, 1) := by decide +kernel
theorem dX6_ofPlace_5 : decode cX6_ofPlace 5 = .ok (.iload_n 2, 1) := by decide +kernel
theorem dX6_ofPlace_6 : decode cX6_ofPlace 6 = .ok (.ishl, 1) := by decide +kernel
theorem dX6_ofPlace_7 : decode cX6_ofPlace 7 = .ok (.iand, 1) := by decide +kernel
theorem dX6_ofPlace_8 : decode cX6_ofPlace 8 = .ok (.ifCond .ne 6, 3) := by decide +kernel
theorem dX6_ofPlace_11 : decode cX6_ofPlace 11 = .ok (.bipush 50, 2) := by decide +kernel
theorem dX6_ofPlace_13 : decode cX6_ofPlace 13 = .ok (.ireturn, 1) := by decide +kernel
theorem dX6_ofPlace_14 : decode cX6_ofPlace 14 = .ok (.aload_n 1, 1) := by decide +kernel
theorem dX6_ofPlace_15 : decode cX6_ofPlace 15 = .ok (.getfield 30, 3) := by decide +kernel
theorem dX6_ofPlace_18 : decode cX6_ofPlace 18 = .ok (.iconst 2, 1) := by decide +kernel
theorem dX6_ofPlace_19 : decode cX6_ofPlace 19 = .ok (.if_icmp .ne 11, 3) := by decide +kernel
theorem dX6_ofPlace_22 : decode cX6_ofPlace 22 = .ok (.iload_n 2, 1) := by decide +kernel
theorem dX6_ofPlace_23 : decode cX6_ofPlace 23 = .ok (.ifCond .ne 7, 3) := by decide +kernel
theorem dX6_ofPlace_26 : decode cX6_ofPlace 26 = .ok (.iconst 1, 1) := by decide +kernel
theorem dX6_ofPlace_27 : decode cX6_ofPlace 27 = .ok (.goto 4, 3) := by decide +kernel
theorem dX6_ofPlace_30 : decode cX6_ofPlace 30 = .ok (.iconst 0, 1) := by decide +kernel
theorem dX6_ofPlace_31 : decode cX6_ofPlace 31 = .ok (.istore_n 3, 1) := by decide +kernel
theorem dX6_ofPlace_32 : decode cX6_ofPlace 32 = .ok (.bipush 50, 2) := by decide +kernel
theorem dX6_ofPlace_34 : decode cX6_ofPlace 34 = .ok (.iload_n 3, 1) := by decide +kernel
theorem dX6_ofPlace_35 : decode cX6_ofPlace 35 = .ok (.ifCond .eq 12, 3) := by decide +kernel
theorem dX6_ofPlace_38 : decode cX6_ofPlace 38 = .ok (.iconst 2, 1) := by decide +kernel
theorem dX6_ofPlace_39 : decode cX6_ofPlace 39 = .ok (.aload_n 0, 1) := by decide +kernel
theorem dX6_ofPlace_40 : decode cX6_ofPlace 40 = .ok (.getfield 9, 3) := by decide +kernel
theorem dX6_ofPlace_43 : decode cX6_ofPlace 43 = .ok (.imul, 1) := by decide +kernel
theorem dX6_ofPlace_44 : decode cX6_ofPlace 44 = .ok (.goto 7, 3) := by decide +kernel
theorem dX6_ofPlace_47 : decode cX6_ofPlace 47 = .ok (.aload_n 0, 1) := by decide +kernel
theorem dX6_ofPlace_48 : decode cX6_ofPlace 48 = .ok (.getfield 9, 3) := by decide +kernel
theorem dX6_ofPlace_51 : decode cX6_ofPlace 51 = .ok (.iadd, 1) := by decide +kernel
theorem dX6_ofPlace_52 : decode cX6_ofPlace 52 = .ok (.ireturn, 1) := by decide +kernel
theorem dX6_ofStep_0 : decode cX6_ofStep 0 = .ok (.iload_n 3, 1) := by decide +kernel
theorem dX6_ofStep_1 : decode cX6_ofStep 1 = .ok (.iload_n 2, 1) := by decide +kernel
theorem dX6_ofStep_2 : decode cX6_ofStep 2 = .ok (.iconst 1, 1) := by decide +kernel
theorem dX6_ofStep_3 : decode cX6_ofStep 3 = .ok (.iadd, 1) := by decide +kernel
theorem dX6_ofStep_4 : decode cX6_ofStep 4 = .ok (.if_icmp .ne 8, 3) := by decide +kernel
theorem dX6_ofStep_7 : decode cX6_ofStep 7 = .ok (.aload_n 0, 1) := by decide +kernel
theorem dX6_ofStep_8 : decode cX6_ofStep 8 = .ok (.getfield 15, 3) := by decide +kernel
theorem dX6_ofStep_11 : decode cX6_ofStep 11 = .ok (.ireturn, 1) := by decide +kernel
theorem dX6_ofStep_12 : decode cX6_ofStep 12 = .ok (.aload_n 1, 1) := by decide +kernel
theorem dX6_ofStep_13 : decode cX6_ofStep 13 = .ok (.getfield 30, 3) := by decide +kernel
theorem dX6_ofStep_16 : decode cX6_ofStep 16 = .ok (.iconst 3, 1) := by decide +kernel
theorem dX6_ofStep_17 : decode cX6_ofStep 17 = .ok (.if_icmp .ne 7, 3) := by decide +kernel
theorem dX6_ofStep_20 : decode cX6_ofStep 20 = .ok (.iconst 0, 1) := by decide +kernel
theorem dX6_ofStep_21 : decode cX6_ofStep 21 = .ok (.goto 14, 3) := by decide +kernel
theorem dX6_ofStep_24 : decode cX6_ofStep 24 = .ok (.aload_n 0, 1) := by decide +kernel
theorem dX6_ofStep_25 : decode cX6_ofStep 25 = .ok (.getfield 18, 3) := by decide +kernel
theorem dX6_ofStep_28 : decode cX6_ofStep 28 = .ok (.ineg, 1) := by decide +kernel
theorem dX6_ofStep_29 : decode cX6_ofStep 29 = .ok (.iload_n 3, 1) := by decide +kernel
theorem dX6_ofStep_30 : decode cX6_ofStep 30 = .ok (.iload_n 2, 1) := by decide +kernel
theorem dX6_ofStep_31 : decode cX6_ofStep 31 = .ok (.isub, 1) := by decide +kernel
theorem dX6_ofStep_32 : decode cX6_ofStep 32 = .ok (.iconst 1, 1) := by decide +kernel
theorem dX6_ofStep_33 : decode cX6_ofStep 33 = .ok (.isub, 1) := by decide +kernel
theorem dX6_ofStep_34 : decode cX6_ofStep 34 = .ok (.imul, 1) := by decide +kernel
theorem dX6_ofStep_35 : decode cX6_ofStep 35 = .ok (.ireturn, 1) := by decide +kernel
theorem dX7_init_0 : decode cX7_init 0 = .ok (.aload_n 0, 1) := by decide +kernel
theorem dX7_init_1 : decode cX7_init 1 = .ok (.invokespecial 3, 3) := by decide +kernel
theorem dX7_init_4 : decode cX7_init 4 = .ok (.aload_n 0, 1) := by decide +kernel
theorem dX7_init_5 : decode cX7_init 5 = .ok (.sipush 200, 3) := by decide +kernel
theorem dX7_init_8 : decode cX7_init 8 = .ok (.newarray .char, 2) := by decide +kernel
theorem dX7_init_10 : decode cX7_init 10 = .ok (.putfield 9, 3) := by decide +kernel
theorem dX7_init_13 : decode cX7_init 13 = .ok (.aload_n 0, 1) := by decide +kernel
theorem dX7_init_14 : decode cX7_init 14 = .ok (.iconst 0, 1) := by decide +kernel
theorem dX7_init_15 : decode cX7_init 15 = .ok (.putfield 15, 3) := by decide +kernel
theorem dX7_init_18 : decode cX7_init 18 = .ok (.return_, 1) := by decide +kernel
theorem dX7_append_0 : decode cX7_append 0 = .ok (.aload_n 0, 1) := by decide +kernel
theorem dX7_append_1 : decode cX7_append 1 = .ok (.getfield 15, 3) := by decide +kernel
theorem dX7_append_4 : decode cX7_append 4 = .ok (.sipush 200, 3) := by decide +kernel
theorem dX7_append_7 : decode cX7_append 7 = .ok (.if_icmp .ge 23, 3) := by decide +kernel
theorem dX7_append_10 : decode cX7_append 10 = .ok (.aload_n 0, 1) := by decide +kernel
theorem dX7_append_11 : decode cX7_append 11 = .ok (.getfield 9, 3) := by decide +kernel
theorem dX7_append_14 : decode cX7_append 14 = .ok (.aload_n 0, 1) := by decide +kernel
theorem dX7_append_15 : decode cX7_append 15 = .ok (.getfield 15, 3) := by decide +kernel
theorem dX7_append_18 : decode cX7_append 18 = .ok (.iload_n 1, 1) := by decide +kernel
theorem dX7_append_19 : decode cX7_append 19 = .ok (.castore, 1) := by decide +kernel
theorem dX7_append_20 : decode cX7_append 20 = .ok (.aload_n 0, 1) := by decide +kernel
theorem dX7_append_21 : decode cX7_append 21 = .ok (.dup, 1) := by decide +kernel
theorem dX7_append_22 : decode cX7_append 22 = .ok (.getfield 15, 3) := by decide +kernel
theorem dX7_append_25 : decode cX7_append 25 = .ok (.iconst 1, 1) := by decide +kernel
theorem dX7_append_26 : decode cX7_append 26 = .ok (.iadd, 1) := by decide +kernel
theorem dX7_append_27 : decode cX7_append 27 = .ok (.putfield 15, 3) := by decide +kernel
theorem dX7_append_30 : decode cX7_append 30 = .ok (.return_, 1) := by decide +kernel
theorem dX7_clear_0 : decode cX7_clear 0 = .ok (.aload_n 0, 1) := by decide +kernel
theorem dX7_clear_1 : decode cX7_clear 1 = .ok (.getfield 15, 3) := by decide +kernel
theorem dX7_clear_4 : decode cX7_clear 4 = .ok (.istore_n 1, 1) := by decide +kernel
theorem dX7_clear_5 : decode cX7_clear 5 = .ok (.aload_n 0, 1) := by decide +kernel
theorem dX7_clear_6 : decode cX7_clear 6 = .ok (.iconst 0, 1) := by decide +kernel
theorem dX7_clear_7 : decode cX7_clear 7 = .ok (.putfield 15, 3) := by decide +kernel
theorem dX7_clear_10 : decode cX7_clear 10 = .ok (.iload_n 1, 1) := by decide +kernel
theorem dX7_clear_11 : decode cX7_clear 11 = .ok (.ireturn, 1) := by decide +kernel
theorem dX7_at_0 : decode cX7_at 0 = .ok (.iload_n 1, 1) := by decide +kernel
theorem dX7_at_1 : decode cX7_at 1 = .ok (.ifCond .lt 20, 3) := by decide +kernel
theorem dX7_at_4 : decode cX7_at 4 = .ok (.iload_n 1, 1) := by decide +kernel
theorem dX7_at_5 : decode cX7_at 5 = .ok (.aload_n 0, 1) := by decide +kernel
theorem dX7_at_6 : decode cX7_at 6 = .ok (.getfield 15, 3) := by decide +kernel
theorem dX7_at_9 : decode cX7_at 9 = .ok (.if_icmp .ge 12, 3) := by decide +kernel
theorem dX7_at_12 : decode cX7_at 12 = .ok (.aload_n 0, 1) := by decide +kernel
theorem dX7_at_13 : decode cX7_at 13 = .ok (.getfield 9, 3) := by decide +kernel
theorem dX7_at_16 : decode cX7_at 16 = .ok (.iload_n 1, 1) := by decide +kernel
theorem dX7_at_17 : decode cX7_at 17 = .ok (.caload, 1) := by decide +kernel
theorem dX7_at_18 : decode cX7_at 18 = .ok (.goto 4, 3) := by decide +kernel
theorem dX7_at_21 : decode cX7_at 21 = .ok (.iconst 0, 1) := by decide +kernel
theorem dX7_at_22 : decode cX7_at 22 = .ok (.ireturn, 1) := by decide +kernel
theorem dX7_figureAt_0 : decode cX7_figureAt 0 = .ok (.aload_n 0, 1) := by decide +kernel
theorem dX7_figureAt_1 : decode cX7_figureAt 1 = .ok (.iload_n 1, 1) := by decide +kernel
theorem dX7_figureAt_2 : decode cX7_figureAt 2 = .ok (.invokevirtual 19, 3) := by decide +kernel
theorem dX7_figureAt_5 : decode cX7_figureAt 5 = .ok (.bipush 48, 2) := by decide +kernel
theorem dX7_figureAt_7 : decode cX7_figureAt 7 = .ok (.isub, 1) := by decide +kernel
theorem dX7_figureAt_8 : decode cX7_figureAt 8 = .ok (.ireturn, 1) := by decide +kernel
theorem dX7_firstFault_0 : decode cX7_firstFault 0 = .ok (.iconst 0, 1) := by decide +kernel
theorem dX7_firstFault_1 : decode cX7_firstFault 1 = .ok (.istore_n 1, 1) := by decide +kernel
theorem dX7_firstFault_2 : decode cX7_firstFault 2 = .ok (.iconst 0, 1) := by decide +kernel
theorem dX7_firstFault_3 : decode cX7_firstFault 3 = .ok (.istore_n 2, 1) := by decide +kernel
theorem dX7_firstFault_4 : decode cX7_firstFault 4 = .ok (.iconst 0, 1) := by decide +kernel
theorem dX7_firstFault_5 : decode cX7_firstFault 5 = .ok (.istore_n 3, 1) := by decide +kernel
theorem dX7_firstFault_6 : decode cX7_firstFault 6 = .ok (.iload_n 3, 1) := by decide +kernel
theorem dX7_firstFault_7 : decode cX7_firstFault 7 = .ok (.sipush 200, 3) := by decide +kernel
theorem dX7_firstFault_10 : decode cX7_firstFault 10 = .ok (.if_icmp .ge 54, 3) := by decide +kernel
theorem dX7_firstFault_13 : decode cX7_firstFault 13 = .ok (.iload_n 1, 1) := by decide +kernel
theorem dX7_firstFault_14 : decode cX7_firstFault 14 = .ok (.aload_n 0, 1) := by decide +kernel
theorem dX7_firstFault_15 : decode cX7_firstFault 15 = .ok (.getfield 15, 3) := by decide +kernel
theorem dX7_firstFault_18 : decode cX7_firstFault 18 = .ok (.if_icmp .ge 46, 3) := by decide +kernel
theorem dX7_firstFault_21 : decode cX7_firstFault 21 = .ok (.aload_n 0, 1) := by decide +kernel
theorem dX7_firstFault_22 : decode cX7_firstFault 22 = .ok (.iload_n 1, 1) := by decide +kernel
theorem dX7_firstFault_23 : decode cX7_firstFault 23 = .ok (.invokevirtual 23, 3) := by decide +kernel
theorem dX7_firstFault_26 : decode cX7_firstFault 26 = .ok (.istore 4, 2) := by decide +kernel
theorem dX7_firstFault_28 : decode cX7_firstFault 28 = .ok (.aload_n 0, 1) := by decide +kernel
theorem dX7_firstFault_29 : decode cX7_firstFault 29 = .ok (.iload_n 1, 1) := by decide +kernel
theorem dX7_firstFault_30 : decode cX7_firstFault 30 = .ok (.invokevirtual 19, 3) := by decide +kernel
theorem dX7_firstFault_33 : decode cX7_firstFault 33 = .ok (.bipush 115, 2) := by decide +kernel
theorem dX7_firstFault_35 : decode cX7_firstFault 35 = .ok (.if_icmp .ne 6, 3) := by decide +kernel
theorem dX7_firstFault_38 : decode cX7_firstFault 38 = .ok (.iinc 2 1, 3) := by decide +kernel
theorem dX7_firstFault_41 : decode cX7_firstFault 41 = .ok (.iload 4, 2) := by decide +kernel
theorem dX7_firstFault_43 : decode cX7_firstFault 43 = .ok (.iconst (-1), 1) := by decide +kernel
theorem dX7_firstFault_44 : decode cX7_firstFault 44 = .ok (.if_icmp .eq 9, 3) := by decide +kernel
theorem dX7_firstFault_47 : decode cX7_firstFault 47 = .ok (.iload_n 2, 1) := by decide +kernel
theorem dX7_firstFault_48 : decode cX7_firstFault 48 = .ok (.bipush 8, 2) := by decide +kernel
theorem dX7_firstFault_50 : decode cX7_firstFault 50 = .ok (.if_icmp .le 5, 3) := by decide +kernel
theorem dX7_firstFault_53 : decode cX7_firstFault 53 = .ok (.iload_n 1, 1) := by decide +kernel
theorem dX7_firstFault_54 : decode cX7_firstFault 54 = .ok (.ireturn, 1) := by decide +kernel
theorem dX7_firstFault_55 : decode cX7_firstFault 55 = .ok (.iload 4, 2) := by decide +kernel
theorem dX7_firstFault_57 : decode cX7_firstFault 57 = .ok (.istore_n 1, 1) := by decide +kernel
theorem dX7_firstFault_58 : decode cX7_firstFault 58 = .ok (.iinc 3 1, 3) := by decide +kernel
theorem dX7_firstFault_61 : decode cX7_firstFault 61 = .ok (.goto (-55), 3) := by decide +kernel
theorem dX7_firstFault_64 : decode cX7_firstFault 64 = .ok (.bipush (-4), 2) := by decide +kernel
theorem dX7_firstFault_66 : decode cX7_firstFault 66 = .ok (.ireturn, 1) := by decide +kernel
theorem dX7_hasName_0 : decode cX7_hasName 0 = .ok (.iconst 0, 1) := by decide +kernel
theorem dX7_hasName_1 : decode cX7_hasName 1 = .ok (.istore_n 1, 1) := by decide +kernel
theorem dX7_hasName_2 : decode cX7_hasName 2 = .ok (.iload_n 1, 1) := by decide +kernel
theorem dX7_hasName_3 : decode cX7_hasName 3 = .ok (.aload_n 0, 1) := by decide +kernel
theorem dX7_hasName_4 : decode cX7_hasName 4 = .ok (.getfield 15, 3) := by decide +kernel
theorem dX7_hasName_7 : decode cX7_hasName 7 = .ok (.if_icmp .ge 22, 3) := by decide +kernel
theorem dX7_hasName_10 : decode cX7_hasName 10 = .ok (.aload_n 0, 1) := by decide +kernel
theorem dX7_hasName_11 : decode cX7_hasName 11 = .ok (.getfield 9, 3) := by decide +kernel
theorem dX7_hasName_14 : decode cX7_hasName 14 = .ok (.iload_n 1, 1) := by decide +kernel
theorem dX7_hasName_15 : decode cX7_hasName 15 = .ok (.caload, 1) := by decide +kernel
theorem dX7_hasName_16 : decode cX7_hasName 16 = .ok (.bipush 115, 2) := by decide +kernel
theorem dX7_hasName_18 : decode cX7_hasName 18 = .ok (.if_icmp .ne 5, 3) := by decide +kernel
theorem dX7_hasName_21 : decode cX7_hasName 21 = .ok (.iconst 1, 1) := by decide +kernel
theorem dX7_hasName_22 : decode cX7_hasName 22 = .ok (.ireturn, 1) := by decide +kernel
theorem dX7_hasName_23 : decode cX7_hasName 23 = .ok (.iinc 1 1, 3) := by decide +kernel
theorem dX7_hasName_26 : decode cX7_hasName 26 = .ok (.goto (-24), 3) := by decide +kernel
theorem dX7_hasName_29 : decode cX7_hasName 29 = .ok (.iconst 0, 1) := by decide +kernel
theorem dX7_hasName_30 : decode cX7_hasName 30 = .ok (.ireturn, 1) := by decide +kernel
theorem dX7_behindItem_0 : decode cX7_behindItem 0 = .ok (.aload_n 0, 1) := by decide +kernel
theorem dX7_behindItem_1 : decode cX7_behindItem 1 = .ok (.iload_n 1, 1) := by decide +kernel
theorem dX7_behindItem_2 : decode cX7_behindItem 2 = .ok (.invokevirtual 19, 3) := by decide +kernel
theorem dX7_behindItem_5 : decode cX7_behindItem 5 = .ok (.bipush 115, 2) := by decide +kernel
theorem dX7_behindItem_7 : decode cX7_behindItem 7 = .ok (.if_icmp .ne 9, 3) := by decide +kernel
theorem dX7_behindItem_10 : decode cX7_behindItem 10 = .ok (.aload_n 0, 1) := by decide +kernel
theorem dX7_behindItem_11 : decode cX7_behindItem 11 = .ok (.iload_n 1, 1) := by decide +kernel
theorem dX7_behindItem_12 : decode cX7_behindItem 12 = .ok (.invokevirtual 27, 3) := by decide +kernel
theorem dX7_behindItem_15 : decode cX7_behindItem 15 = .ok (.ireturn, 1) := by decide +kernel
theorem dX7_behindItem_16 : decode cX7_behindItem 16 = .ok (.aload_n 0, 1) := by decide +kernel
theorem dX7_behindItem_17 : decode cX7_behindItem 17 = .ok (.iload_n 1, 1) := by decide +kernel
theorem dX7_behindItem_18 : decode cX7_behindItem 18 = .ok (.invokevirtual 19, 3) := by decide +kernel
theorem dX7_behindItem_21 : decode cX7_behindItem 21 = .ok (.bipush 119, 2) := by decide +kernel
theorem dX7_behindItem_23 : decode cX7_behindItem 23 = .ok (.if_icmp .ne 11, 3) := by decide +kernel
theorem dX7_behindItem_26 : decode cX7_behindItem 26 = .ok (.aload_n 0, 1) := by decide +kernel
theorem dX7_behindItem_27 : decode cX7_behindItem 27 = .ok (.iload_n 1, 1) := by decide +kernel
theorem dX7_behindItem_28 : decode cX7_behindItem 28 = .ok (.invokevirtual 30, 3) := by decide +kernel
theorem dX7_behindItem_31 : decode cX7_behindItem 31 = .ok (.goto 4, 3) := by decide +kernel
theorem dX7_behindItem_34 : decode cX7_behindItem 34 = .ok (.iconst (-1), 1) := by decide +kernel
theorem dX7_behindItem_35 : decode cX7_behindItem 35 = .ok (.ireturn, 1) := by decide +kernel
theorem dX7_behindName_0 : decode cX7_behindName 0 = .ok (.aload_n 0, 1) := by decide +kernel
theorem dX7_behindName_1 : decode cX7_behindName 1 = .ok (.iload_n 1, 1) := by decide +kernel
theorem dX7_behindName_2 : decode cX7_behindName 2 = .ok (.iconst 1, 1) := by decide +kernel
theorem dX7_behindName_3 : decode cX7_behindName 3 = .ok (.iadd, 1) := by decide +kernel
theorem dX7_behindName_4 : decode cX7_behindName 4 = .ok (.iconst 3, 1) := by decide +kernel
theorem dX7_behindName_5 : decode cX7_behindName 5 = .ok (.invokevirtual 33, 3) := by decide +kernel
theorem dX7_behindName_8 : decode cX7_behindName 8 = .ok (.ifCond .eq 15, 3) := by decide +kernel
theorem dX7_behindName_11 : decode cX7_behindName 11 = .ok (.aload_n 0, 1) := by decide +kernel
theorem dX7_behindName_12 : decode cX7_behindName 12 = .ok (.iload_n 1, 1) := by decide +kernel
theorem dX7_behindName_13 : decode cX7_behindName 13 = .ok (.iconst 2, 1) := by decide +kernel
theorem dX7_behindName_14 : decode cX7_behindName 14 = .ok (.iadd, 1) := by decide +kernel
theorem dX7_behindName_15 : decode cX7_behindName 15 = .ok (.invokevirtual 19, 3) := by decide +kernel
theorem dX7_behindName_18 : decode cX7_behindName 18 = .ok (.bipush 44, 2) := by decide +kernel
theorem dX7_behindName_20 : decode cX7_behindName 20 = .ok (.if_icmp .eq 5, 3) := by decide +kernel
theorem dX7_behindName_23 : decode cX7_behindName 23 = .ok (.iconst (-1), 1) := by decide +kernel
theorem dX7_behindName_24 : decode cX7_behindName 24 = .ok (.ireturn, 1) := by decide +kernel
theorem dX7_behindName_25 : decode cX7_behindName 25 = .ok (.iconst 0, 1) := by decide +kernel
theorem dX7_behindName_26 : decode cX7_behindName 26 = .ok (.istore_n 2, 1) := by decide +kernel
theorem dX7_behindName_27 : decode cX7_behindName 27 = .ok (.iload_n 2, 1) := by decide +kernel
theorem dX7_behindName_28 : decode cX7_behindName 28 = .ok (.bipush 12, 2) := by decide +kernel
theorem dX7_behindName_30 : decode cX7_behindName 30 = .ok (.if_icmp .gt 24, 3) := by decide +kernel
theorem dX7_behindName_33 : decode cX7_behindName 33 = .ok (.aload_n 0, 1) := by decide +kernel
theorem dX7_behindName_34 : decode cX7_behindName 34 = .ok (.iload_n 1, 1) := by decide +kernel
theorem dX7_behindName_35 : decode cX7_behindName 35 = .ok (.iconst 3, 1) := by decide +kernel
theorem dX7_behindName_36 : decode cX7_behindName 36 = .ok (.iadd, 1) := by decide +kernel
theorem dX7_behindName_37 : decode cX7_behindName 37 = .ok (.iload_n 2, 1) := by decide +kernel
theorem dX7_behindName_38 : decode cX7_behindName 38 = .ok (.iadd, 1) := by decide +kernel
theorem dX7_behindName_39 : decode cX7_behindName 39 = .ok (.invokevirtual 19, 3) := by decide +kernel
theorem dX7_behindName_42 : decode cX7_behindName 42 = .ok (.invokestatic 37, 3) := by decide +kernel
theorem dX7_behindName_45 : decode cX7_behindName 45 = .ok (.ifCond .eq 9, 3) := by decide +kernel
theorem dX7_behindName_48 : decode cX7_behindName 48 = .ok (.iinc 2 1, 3) := by decide +kernel
theorem dX7_behindName_51 : decode cX7_behindName 51 = .ok (.goto (-24), 3) := by decide +kernel
theorem dX7_behindName_54 : decode cX7_behindName 54 = .ok (.iload_n 2, 1) := by decide +kernel
theorem dX7_behindName_55 : decode cX7_behindName 55 = .ok (.iconst 1, 1) := by decide +kernel
theorem dX7_behindName_56 : decode cX7_behindName 56 = .ok (.if_icmp .lt 27, 3) := by decide +kernel
theorem dX7_behindName_59 : decode cX7_behindName 59 = .ok (.iload_n 2, 1) := by decide +kernel
theorem dX7_behindName_60 : decode cX7_behindName 60 = .ok (.bipush 12, 2) := by decide +kernel
theorem dX7_behindName_62 : decode cX7_behindName 62 = .ok (.if_icmp .gt 21, 3) := by decide +kernel
theorem dX7_behindName_65 : decode cX7_behindName 65 = .ok (.aload_n 0, 1) := by decide +kernel
theorem dX7_behindName_66 : decode cX7_behindName 66 = .ok (.iload_n 1, 1) := by decide +kernel
theorem dX7_behindName_67 : decode cX7_behindName 67 = .ok (.iconst 3, 1) := by decide +kernel
theorem dX7_behindName_68 : decode cX7_behindName 68 = .ok (.iadd, 1) := by decide +kernel
theorem dX7_behindName_69 : decode cX7_behindName 69 = .ok (.iload_n 2, 1) := by decide +kernel
theorem dX7_behindName_70 : decode cX7_behindName 70 = .ok (.iadd, 1) := by decide +kernel
theorem dX7_behindName_71 : decode cX7_behindName 71 = .ok (.invokevirtual 19, 3) := by decide +kernel
theorem dX7_behindName_74 : decode cX7_behindName 74 = .ok (.bipush 59, 2) := by decide +kernel
theorem dX7_behindName_76 : decode cX7_behindName 76 = .ok (.if_icmp .ne 7, 3) := by decide +kernel
theorem dX7_behindName_79 : decode cX7_behindName 79 = .ok (.iconst 1, 1) := by decide +kernel
theorem dX7_behindName_80 : decode cX7_behindName 80 = .ok (.goto 4, 3) := by decide +kernel
theorem dX7_behindName_83 : decode cX7_behindName 83 = .ok (.iconst 0, 1) := by decide +kernel
theorem dX7_behindName_84 : decode cX7_behindName 84 = .ok (.istore_n 3, 1) := by decide +kernel
theorem dX7_behindName_85 : decode cX7_behindName 85 = .ok (.iload_n 3, 1) := by decide +kernel
theorem dX7_behindName_86 : decode cX7_behindName 86 = .ok (.ifCond .eq 11, 3) := by decide +kernel
theorem dX7_behindName_89 : decode cX7_behindName 89 = .ok (.iload_n 1, 1) := by decide +kernel
theorem dX7_behindName_90 : decode cX7_behindName 90 = .ok (.iconst 4, 1) := by decide +kernel
theorem dX7_behindName_91 : decode cX7_behindName 91 = .ok (.iadd, 1) := by decide +kernel
theorem dX7_behindName_92 : decode cX7_behindName 92 = .ok (.iload_n 2, 1) := by decide +kernel
theorem dX7_behindName_93 : decode cX7_behindName 93 = .ok (.iadd, 1) := by decide +kernel
theorem dX7_behindName_94 : decode cX7_behindName 94 = .ok (.goto 4, 3) := by decide +kernel
theorem dX7_behindName_97 : decode cX7_behindName 97 = .ok (.iconst (-1), 1) := by decide +kernel
theorem dX7_behindName_98 : decode cX7_behindName 98 = .ok (.ireturn, 1) := by decide +kernel
theorem dX7_behindWorths_0 : decode cX7_behindWorths 0 = .ok (.aload_n 0, 1) := by decide +kernel
theorem dX7_behindWorths_1 : decode cX7_behindWorths 1 = .ok (.iload_n 1, 1) := by decide +kernel
theorem dX7_behindWorths_2 : decode cX7_behindWorths 2 = .ok (.iconst 1, 1) := by decide +kernel
theorem dX7_behindWorths_3 : decode cX7_behindWorths 3 = .ok (.iadd, 1) := by decide +kernel
theorem dX7_behindWorths_4 : decode cX7_behindWorths 4 = .ok (.bipush 9, 2) := by decide +kernel
theorem dX7_behindWorths_6 : decode cX7_behindWorths 6 = .ok (.invokevirtual 33, 3) := by decide +kernel
theorem dX7_behindWorths_9 : decode cX7_behindWorths 9 = .ok (.ifCond .eq 68, 3) := by decide +kernel
theorem dX7_behindWorths_12 : decode cX7_behindWorths 12 = .ok (.aload_n 0, 1) := by decide +kernel
theorem dX7_behindWorths_13 : decode cX7_behindWorths 13 = .ok (.iload_n 1, 1) := by decide +kernel
theorem dX7_behindWorths_14 : decode cX7_behindWorths 14 = .ok (.iconst 2, 1) := by decide +kernel
theorem dX7_behindWorths_15 : decode cX7_behindWorths 15 = .ok (.iadd, 1) := by decide +kernel
theorem dX7_behindWorths_16 : decode cX7_behindWorths 16 = .ok (.invokevirtual 19, 3) := by decide +kernel
theorem dX7_behindWorths_19 : decode cX7_behindWorths 19 = .ok (.bipush 44, 2) := by decide +kernel
theorem dX7_behindWorths_21 : decode cX7_behindWorths 21 = .ok (.if_icmp .ne 56, 3) := by decide +kernel
theorem dX7_behindWorths_24 : decode cX7_behindWorths 24 = .ok (.aload_n 0, 1) := by decide +kernel
theorem dX7_behindWorths_25 : decode cX7_behindWorths 25 = .ok (.iload_n 1, 1) := by decide +kernel
theorem dX7_behindWorths_26 : decode cX7_behindWorths 26 = .ok (.iconst 3, 1) := by decide +kernel
theorem dX7_behindWorths_27 : decode cX7_behindWorths 27 = .ok (.iadd, 1) := by decide +kernel
theorem dX7_behindWorths_28 : decode cX7_behindWorths 28 = .ok (.bipush 9, 2) := by decide +kernel
theorem dX7_behindWorths_30 : decode cX7_behindWorths 30 = .ok (.invokevirtual 33, 3) := by decide +kernel
theorem dX7_behindWorths_33 : decode cX7_behindWorths 33 = .ok (.ifCond .eq 44, 3) := by decide +kernel
theorem dX7_behindWorths_36 : decode cX7_behindWorths 36 = .ok (.aload_n 0, 1) := by decide +kernel
theorem dX7_behindWorths_37 : decode cX7_behindWorths 37 = .ok (.iload_n 1, 1) := by decide +kernel
theorem dX7_behindWorths_38 : decode cX7_behindWorths 38 = .ok (.iconst 4, 1) := by decide +kernel
theorem dX7_behindWorths_39 : decode cX7_behindWorths 39 = .ok (.iadd, 1) := by decide +kernel
theorem dX7_behindWorths_40 : decode cX7_behindWorths 40 = .ok (.invokevirtual 19, 3) := by decide +kernel
theorem dX7_behindWorths_43 : decode cX7_behindWorths 43 = .ok (.bipush 44, 2) := by decide +kernel
theorem dX7_behindWorths_45 : decode cX7_behindWorths 45 = .ok (.if_icmp .ne 32, 3) := by decide +kernel
theorem dX7_behindWorths_48 : decode cX7_behindWorths 48 = .ok (.aload_n 0, 1) := by decide +kernel
theorem dX7_behindWorths_49 : decode cX7_behindWorths 49 = .ok (.iload_n 1, 1) := by decide +kernel
theorem dX7_behindWorths_50 : decode cX7_behindWorths 50 = .ok (.iconst 5, 1) := by decide +kernel
theorem dX7_behindWorths_51 : decode cX7_behindWorths 51 = .ok (.iadd, 1) := by decide +kernel
theorem dX7_behindWorths_52 : decode cX7_behindWorths 52 = .ok (.bipush 9, 2) := by decide +kernel
theorem dX7_behindWorths_54 : decode cX7_behindWorths 54 = .ok (.invokevirtual 33, 3) := by decide +kernel
theorem dX7_behindWorths_57 : decode cX7_behindWorths 57 = .ok (.ifCond .eq 20, 3) := by decide +kernel
theorem dX7_behindWorths_60 : decode cX7_behindWorths 60 = .ok (.aload_n 0, 1) := by decide +kernel
theorem dX7_behindWorths_61 : decode cX7_behindWorths 61 = .ok (.iload_n 1, 1) := by decide +kernel
theorem dX7_behindWorths_62 : decode cX7_behindWorths 62 = .ok (.bipush 6, 2) := by decide +kernel
theorem dX7_behindWorths_64 : decode cX7_behindWorths 64 = .ok (.iadd, 1) := by decide +kernel
theorem dX7_behindWorths_65 : decode cX7_behindWorths 65 = .ok (.invokevirtual 19, 3) := by decide +kernel
theorem dX7_behindWorths_68 : decode cX7_behindWorths 68 = .ok (.bipush 59, 2) := by decide +kernel
theorem dX7_behindWorths_70 : decode cX7_behindWorths 70 = .ok (.if_icmp .ne 7, 3) := by decide +kernel
theorem dX7_behindWorths_73 : decode cX7_behindWorths 73 = .ok (.iconst 1, 1) := by decide +kernel
theorem dX7_behindWorths_74 : decode cX7_behindWorths 74 = .ok (.goto 4, 3) := by decide +kernel
theorem dX7_behindWorths_77 : decode cX7_behindWorths 77 = .ok (.iconst 0, 1) := by decide +kernel
theorem dX7_behindWorths_78 : decode cX7_behindWorths 78 = .ok (.istore_n 2, 1) := by decide +kernel
theorem dX7_behindWorths_79 : decode cX7_behindWorths 79 = .ok (.iload_n 2, 1) := by decide +kernel
theorem dX7_behindWorths_80 : decode cX7_behindWorths 80 = .ok (.ifCond .eq 10, 3) := by decide +kernel
theorem dX7_behindWorths_83 : decode cX7_behindWorths 83 = .ok (.iload_n 1, 1) := by decide +kernel
theorem dX7_behindWorths_84 : decode cX7_behindWorths 84 = .ok (.bipush 7, 2) := by decide +kernel
theorem dX7_behindWorths_86 : decode cX7_behindWorths 86 = .ok (.iadd, 1) := by decide +kernel
theorem dX7_behindWorths_87 : decode cX7_behindWorths 87 = .ok (.goto 4, 3) := by decide +kernel
theorem dX7_behindWorths_90 : decode cX7_behindWorths 90 = .ok (.iconst (-1), 1) := by decide +kernel
theorem dX7_behindWorths_91 : decode cX7_behindWorths 91 = .ok (.ireturn, 1) := by decide +kernel
theorem dX7_isFigure_0 : decode cX7_isFigure 0 = .ok (.aload_n 0, 1) := by decide +kernel
theorem dX7_isFigure_1 : decode cX7_isFigure 1 = .ok (.iload_n 1, 1) := by decide +kernel
theorem dX7_isFigure_2 : decode cX7_isFigure 2 = .ok (.invokevirtual 41, 3) := by decide +kernel
theorem dX7_isFigure_5 : decode cX7_isFigure 5 = .ok (.ifCond .lt 16, 3) := by decide +kernel
theorem dX7_isFigure_8 : decode cX7_isFigure 8 = .ok (.aload_n 0, 1) := by decide +kernel
theorem dX7_isFigure_9 : decode cX7_isFigure 9 = .ok (.iload_n 1, 1) := by decide +kernel
theorem dX7_isFigure_10 : decode cX7_isFigure 10 = .ok (.invokevirtual 41, 3) := by decide +kernel
theorem dX7_isFigure_13 : decode cX7_isFigure 13 = .ok (.iload_n 2, 1) := by decide +kernel
theorem dX7_isFigure_14 : decode cX7_isFigure 14 = .ok (.if_icmp .gt 7, 3) := by decide +kernel
theorem dX7_isFigure_17 : decode cX7_isFigure 17 = .ok (.iconst 1, 1) := by decide +kernel
theorem dX7_isFigure_18 : decode cX7_isFigure 18 = .ok (.goto 4, 3) := by decide +kernel
theorem dX7_isFigure_21 : decode cX7_isFigure 21 = .ok (.iconst 0, 1) := by decide +kernel
theorem dX7_isFigure_22 : decode cX7_isFigure 22 = .ok (.ireturn, 1) := by decide +kernel
theorem dX8_init_0 : decode cX8_init 0 = .ok (.aload_n 0, 1) := by decide +kernel
theorem dX8_init_1 : decode cX8_init 1 = .ok (.invokespecial 3, 3) := by decide +kernel
theorem dX8_init_4 : decode cX8_init 4 = .ok (.aload_n 0, 1) := by decide +kernel
theorem dX8_init_5 : decode cX8_init 5 = .ok (.bipush 6, 2) := by decide +kernel
theorem dX8_init_7 : decode cX8_init 7 = .ok (.newarray .char, 2) := by decide +kernel
theorem dX8_init_9 : decode cX8_init 9 = .ok (.putfield 9, 3) := by decide +kernel
theorem dX8_init_12 : decode cX8_init 12 = .ok (.aload_n 0, 1) := by decide +kernel
theorem dX8_init_13 : decode cX8_init 13 = .ok (.iconst 0, 1) := by decide +kernel
theorem dX8_init_14 : decode cX8_init 14 = .ok (.putfield 15, 3) := by decide +kernel
theorem dX8_init_17 : decode cX8_init 17 = .ok (.return_, 1) := by decide +kernel
theorem dX8_clear_0 : decode cX8_clear 0 = .ok (.aload_n 0, 1) := by decide +kernel
theorem dX8_clear_1 : decode cX8_clear 1 = .ok (.iconst 0, 1) := by decide +kernel
theorem dX8_clear_2 : decode cX8_clear 2 = .ok (.putfield 15, 3) := by decide +kernel
theorem dX8_clear_5 : decode cX8_clear 5 = .ok (.return_, 1) := by decide +kernel
theorem dX8_add_0 : decode cX8_add 0 = .ok (.aload_n 0, 1) := by decide +kernel
theorem dX8_add_1 : decode cX8_add 1 = .ok (.getfield 15, 3) := by decide +kernel
theorem dX8_add_4 : decode cX8_add 4 = .ok (.bipush 6, 2) := by decide +kernel
theorem dX8_add_6 : decode cX8_add 6 = .ok (.if_icmp .ge 23, 3) := by decide +kernel
theorem dX8_add_9 : decode cX8_add 9 = .ok (.aload_n 0, 1) := by decide +kernel
theorem dX8_add_10 : decode cX8_add 10 = .ok (.getfield 9, 3) := by decide +kernel
theorem dX8_add_13 : decode cX8_add 13 = .ok (.aload_n 0, 1) := by decide +kernel
theorem dX8_add_14 : decode cX8_add 14 = .ok (.getfield 15, 3) := by decide +kernel
theorem dX8_add_17 : decode cX8_add 17 = .ok (.iload_n 1, 1) := by decide +kernel
theorem dX8_add_18 : decode cX8_add 18 = .ok (.castore, 1) := by decide +kernel
theorem dX8_add_19 : decode cX8_add 19 = .ok (.aload_n 0, 1) := by decide +kernel
theorem dX8_add_20 : decode cX8_add 20 = .ok (.dup, 1) := by decide +kernel
theorem dX8_add_21 : decode cX8_add 21 = .ok (.getfield 15, 3) := by decide +kernel
theorem dX8_add_24 : decode cX8_add 24 = .ok (.iconst 1, 1) := by decide +kernel
theorem dX8_add_25 : decode cX8_add 25 = .ok (.iadd, 1) := by decide +kernel
theorem dX8_add_26 : decode cX8_add 26 = .ok (.putfield 15, 3) := by decide +kernel
theorem dX8_add_29 : decode cX8_add 29 = .ok (.return_, 1) := by decide +kernel
theorem dX8_removeLast_0 : decode cX8_removeLast 0 = .ok (.aload_n 0, 1) := by decide +kernel
theorem dX8_removeLast_1 : decode cX8_removeLast 1 = .ok (.getfield 15, 3) := by decide +kernel
theorem dX8_removeLast_4 : decode cX8_removeLast 4 = .ok (.ifCond .ne 6, 3) := by decide +kernel
theorem dX8_removeLast_7 : decode cX8_removeLast 7 = .ok (.bipush (-2), 2) := by decide +kernel
theorem dX8_removeLast_9 : decode cX8_removeLast 9 = .ok (.ireturn, 1) := by decide +kernel
theorem dX8_removeLast_10 : decode cX8_removeLast 10 = .ok (.aload_n 0, 1) := by decide +kernel
theorem dX8_removeLast_11 : decode cX8_removeLast 11 = .ok (.dup, 1) := by decide +kernel
theorem dX8_removeLast_12 : decode cX8_removeLast 12 = .ok (.getfield 15, 3) := by decide +kernel
theorem dX8_removeLast_15 : decode cX8_removeLast 15 = .ok (.iconst 1, 1) := by decide +kernel
theorem dX8_removeLast_16 : decode cX8_removeLast 16 = .ok (.isub, 1) := by decide +kernel
theorem dX8_removeLast_17 : decode cX8_removeLast 17 = .ok (.putfield 15, 3) := by decide +kernel
theorem dX8_removeLast_20 : decode cX8_removeLast 20 = .ok (.aload_n 0, 1) := by decide +kernel
theorem dX8_removeLast_21 : decode cX8_removeLast 21 = .ok (.getfield 9, 3) := by decide +kernel
theorem dX8_removeLast_24 : decode cX8_removeLast 24 = .ok (.aload_n 0, 1) := by decide +kernel
theorem dX8_removeLast_25 : decode cX8_removeLast 25 = .ok (.getfield 15, 3) := by decide +kernel
theorem dX8_removeLast_28 : decode cX8_removeLast 28 = .ok (.caload, 1) := by decide +kernel
theorem dX8_removeLast_29 : decode cX8_removeLast 29 = .ok (.ireturn, 1) := by decide +kernel
theorem dX8_copy_0 : decode cX8_copy 0 = .ok (.aload_n 0, 1) := by decide +kernel
theorem dX8_copy_1 : decode cX8_copy 1 = .ok (.aload_n 1, 1) := by decide +kernel
theorem dX8_copy_2 : decode cX8_copy 2 = .ok (.getfield 15, 3) := by decide +kernel
theorem dX8_copy_5 : decode cX8_copy 5 = .ok (.putfield 15, 3) := by decide +kernel
theorem dX8_copy_8 : decode cX8_copy 8 = .ok (.iconst 0, 1) := by decide +kernel
theorem dX8_copy_9 : decode cX8_copy 9 = .ok (.istore_n 2, 1) := by decide +kernel
theorem dX8_copy_10 : decode cX8_copy 10 = .ok (.iload_n 2, 1) := by decide +kernel
theorem dX8_copy_11 : decode cX8_copy 11 = .ok (.aload_n 0, 1) := by decide +kernel
theorem dX8_copy_12 : decode cX8_copy 12 = .ok (.getfield 15, 3) := by decide +kernel
theorem dX8_copy_15 : decode cX8_copy 15 = .ok (.if_icmp .ge 21, 3) := by decide +kernel
theorem dX8_copy_18 : decode cX8_copy 18 = .ok (.aload_n 0, 1) := by decide +kernel
theorem dX8_copy_19 : decode cX8_copy 19 = .ok (.getfield 9, 3) := by decide +kernel
theorem dX8_copy_22 : decode cX8_copy 22 = .ok (.iload_n 2, 1) := by decide +kernel
theorem dX8_copy_23 : decode cX8_copy 23 = .ok (.aload_n 1, 1) := by decide +kernel
theorem dX8_copy_24 : decode cX8_copy 24 = .ok (.getfield 9, 3) := by decide +kernel
theorem dX8_copy_27 : decode cX8_copy 27 = .ok (.iload_n 2, 1) := by decide +kernel
theorem dX8_copy_28 : decode cX8_copy 28 = .ok (.caload, 1) := by decide +kernel
theorem dX8_copy_29 : decode cX8_copy 29 = .ok (.castore, 1) := by decide +kernel
theorem dX8_copy_30 : decode cX8_copy 30 = .ok (.iinc 2 1, 3) := by decide +kernel
theorem dX8_copy_33 : decode cX8_copy 33 = .ok (.goto (-23), 3) := by decide +kernel
theorem dX8_copy_36 : decode cX8_copy 36 = .ok (.return_, 1) := by decide +kernel
theorem dX8_code_0 : decode cX8_code 0 = .ok (.lconst 0, 1) := by decide +kernel
theorem dX8_code_1 : decode cX8_code 1 = .ok (.lstore_n 1, 1) := by decide +kernel
theorem dX8_code_2 : decode cX8_code 2 = .ok (.iconst 0, 1) := by decide +kernel
theorem dX8_code_3 : decode cX8_code 3 = .ok (.istore_n 3, 1) := by decide +kernel
theorem dX8_code_4 : decode cX8_code 4 = .ok (.iload_n 3, 1) := by decide +kernel
theorem dX8_code_5 : decode cX8_code 5 = .ok (.aload_n 0, 1) := by decide +kernel
theorem dX8_code_6 : decode cX8_code 6 = .ok (.getfield 15, 3) := by decide +kernel
theorem dX8_code_9 : decode cX8_code 9 = .ok (.if_icmp .ge 52, 3) := by decide +kernel
theorem dX8_code_12 : decode cX8_code 12 = .ok (.aload_n 0, 1) := by decide +kernel
theorem dX8_code_13 : decode cX8_code 13 = .ok (.getfield 9, 3) := by decide +kernel
theorem dX8_code_16 : decode cX8_code 16 = .ok (.iload_n 3, 1) := by decide +kernel
theorem dX8_code_17 : decode cX8_code 17 = .ok (.caload, 1) := by decide +kernel
theorem dX8_code_18 : decode cX8_code 18 = .ok (.invokestatic 19, 3) := by decide +kernel
theorem dX8_code_21 : decode cX8_code 21 = .ok (.ifCond .eq 8, 3) := by decide +kernel
theorem dX8_code_24 : decode cX8_code 24 = .ok (.bipush 26, 2) := by decide +kernel
theorem dX8_code_26 : decode cX8_code 26 = .ok (.goto 4, 3) := by decide +kernel
theorem dX8_code_29 : decode cX8_code 29 = .ok (.iconst 0, 1) := by decide +kernel
theorem dX8_code_30 : decode cX8_code 30 = .ok (.istore 4, 2) := by decide +kernel
theorem dX8_code_32 : decode cX8_code 32 = .ok (.ldc2_w 23, 3) := by decide +kernel
theorem dX8_code_35 : decode cX8_code 35 = .ok (.lload_n 1, 1) := by decide +kernel
theorem dX8_code_36 : decode cX8_code 36 = .ok (.lmul, 1) := by decide +kernel
theorem dX8_code_37 : decode cX8_code 37 = .ok (.iload 4, 2) := by decide +kernel
theorem dX8_code_39 : decode cX8_code 39 = .ok (.i2l, 1) := by decide +kernel
theorem dX8_code_40 : decode cX8_code 40 = .ok (.ladd, 1) := by decide +kernel
theorem dX8_code_41 : decode cX8_code 41 = .ok (.aload_n 0, 1) := by decide +kernel
theorem dX8_code_42 : decode cX8_code 42 = .ok (.getfield 9, 3) := by decide +kernel
theorem dX8_code_45 : decode cX8_code 45 = .ok (.iload_n 3, 1) := by decide +kernel
theorem dX8_code_46 : decode cX8_code 46 = .ok (.caload, 1) := by decide +kernel
theorem dX8_code_47 : decode cX8_code 47 = .ok (.invokestatic 25, 3) := by decide +kernel
theorem dX8_code_50 : decode cX8_code 50 = .ok (.i2l, 1) := by decide +kernel
theorem dX8_code_51 : decode cX8_code 51 = .ok (.ladd, 1) := by decide +kernel
theorem dX8_code_52 : decode cX8_code 52 = .ok (.lconst 1, 1) := by decide +kernel
theorem dX8_code_53 : decode cX8_code 53 = .ok (.ladd, 1) := by decide +kernel
theorem dX8_code_54 : decode cX8_code 54 = .ok (.lstore_n 1, 1) := by decide +kernel
theorem dX8_code_55 : decode cX8_code 55 = .ok (.iinc 3 1, 3) := by decide +kernel
theorem dX8_code_58 : decode cX8_code 58 = .ok (.goto (-54), 3) := by decide +kernel
theorem dX8_code_61 : decode cX8_code 61 = .ok (.lload_n 1, 1) := by decide +kernel
theorem dX8_code_62 : decode cX8_code 62 = .ok (.lreturn, 1) := by decide +kernel
theorem dX8_letterBits_0 : decode cX8_letterBits 0 = .ok (.iconst 0, 1) := by decide +kernel
theorem dX8_letterBits_1 : decode cX8_letterBits 1 = .ok (.istore_n 1, 1) := by decide +kernel
theorem dX8_letterBits_2 : decode cX8_letterBits 2 = .ok (.iconst 0, 1) := by decide +kernel
theorem dX8_letterBits_3 : decode cX8_letterBits 3 = .ok (.istore_n 2, 1) := by decide +kernel
theorem dX8_letterBits_4 : decode cX8_letterBits 4 = .ok (.iload_n 2, 1) := by decide +kernel
theorem dX8_letterBits_5 : decode cX8_letterBits 5 = .ok (.aload_n 0, 1) := by decide +kernel
theorem dX8_letterBits_6 : decode cX8_letterBits 6 = .ok (.getfield 15, 3) := by decide +kernel
theorem dX8_letterBits_9 : decode cX8_letterBits 9 = .ok (.if_icmp .ge 23, 3) := by decide +kernel
theorem dX8_letterBits_12 : decode cX8_letterBits 12 = .ok (.iload_n 1, 1) := by decide +kernel
theorem dX8_letterBits_13 : decode cX8_letterBits 13 = .ok (.iconst 1, 1) := by decide +kernel
theorem dX8_letterBits_14 : decode cX8_letterBits 14 = .ok (.aload_n 0, 1) := by decide +kernel
theorem dX8_letterBits_15 : decode cX8_letterBits 15 = .ok (.getfield 9, 3) := by decide +kernel
theorem dX8_letterBits_18 : decode cX8_letterBits 18 = .ok (.iload_n 2, 1) := by decide +kernel
theorem dX8_letterBits_19 : decode cX8_letterBits 19 = .ok (.caload, 1) := by decide +kernel
theorem dX8_letterBits_20 : decode cX8_letterBits 20 = .ok (.invokestatic 25, 3) := by decide +kernel
theorem dX8_letterBits_23 : decode cX8_letterBits 23 = .ok (.ishl, 1) := by decide +kernel
theorem dX8_letterBits_24 : decode cX8_letterBits 24 = .ok (.ior, 1) := by decide +kernel
theorem dX8_letterBits_25 : decode cX8_letterBits 25 = .ok (.istore_n 1, 1) := by decide +kernel
theorem dX8_letterBits_26 : decode cX8_letterBits 26 = .ok (.iinc 2 1, 3) := by decide +kernel
theorem dX8_letterBits_29 : decode cX8_letterBits 29 = .ok (.goto (-25), 3) := by decide +kernel
theorem dX8_letterBits_32 : decode cX8_letterBits 32 = .ok (.iload_n 1, 1) := by decide +kernel
theorem dX8_letterBits_33 : decode cX8_letterBits 33 = .ok (.ireturn, 1) := by decide +kernel
theorem dX9_init_0 : decode cX9_init 0 = .ok (.aload_n 0, 1) := by decide +kernel
theorem dX9_init_1 : decode cX9_init 1 = .ok (.invokespecial 1, 3) := by decide +kernel
theorem dX9_init_4 : decode cX9_init 4 = .ok (.aload_n 0, 1) := by decide +kernel
theorem dX9_init_5 : decode cX9_init 5 = .ok (.new 7, 3) := by decide +kernel
theorem dX9_init_8 : decode cX9_init 8 = .ok (.dup, 1) := by decide +kernel
theorem dX9_init_9 : decode cX9_init 9 = .ok (.invokespecial 9, 3) := by decide +kernel
theorem dX9_init_12 : decode cX9_init 12 = .ok (.putfield 10, 3) := by decide +kernel
theorem dX9_init_15 : decode cX9_init 15 = .ok (.aload_n 0, 1) := by decide +kernel
theorem dX9_init_16 : decode cX9_init 16 = .ok (.new 16, 3) := by decide +kernel
theorem dX9_init_19 : decode cX9_init 19 = .ok (.dup, 1) := by decide +kernel
theorem dX9_init_20 : decode cX9_init 20 = .ok (.invokespecial 18, 3) := by decide +kernel
theorem dX9_init_23 : decode cX9_init 23 = .ok (.putfield 19, 3) := by decide +kernel
theorem dX9_init_26 : decode cX9_init 26 = .ok (.aload_n 0, 1) := by decide +kernel
theorem dX9_init_27 : decode cX9_init 27 = .ok (.new 23, 3) := by decide +kernel
theorem dX9_init_30 : decode cX9_init 30 = .ok (.dup, 1) := by decide +kernel
theorem dX9_init_31 : decode cX9_init 31 = .ok (.invokespecial 25, 3) := by decide +kernel
theorem dX9_init_34 : decode cX9_init 34 = .ok (.putfield 26, 3) := by decide +kernel
theorem dX9_init_37 : decode cX9_init 37 = .ok (.aload_n 0, 1) := by decide +kernel
theorem dX9_init_38 : decode cX9_init 38 = .ok (.new 30, 3) := by decide +kernel
theorem dX9_init_41 : decode cX9_init 41 = .ok (.dup, 1) := by decide +kernel
theorem dX9_init_42 : decode cX9_init 42 = .ok (.invokespecial 32, 3) := by decide +kernel
theorem dX9_init_45 : decode cX9_init 45 = .ok (.putfield 33, 3) := by decide +kernel
theorem dX9_init_48 : decode cX9_init 48 = .ok (.aload_n 0, 1) := by decide +kernel
theorem dX9_init_49 : decode cX9_init 49 = .ok (.new 30, 3) := by decide +kernel
theorem dX9_init_52 : decode cX9_init 52 = .ok (.dup, 1) := by decide +kernel
theorem dX9_init_53 : decode cX9_init 53 = .ok (.invokespecial 32, 3) := by decide +kernel
theorem dX9_init_56 : decode cX9_init 56 = .ok (.putfield 37, 3) := by decide +kernel
theorem dX9_init_59 : decode cX9_init 59 = .ok (.aload_n 0, 1) := by decide +kernel
theorem dX9_init_60 : decode cX9_init 60 = .ok (.iconst 2, 1) := by decide +kernel
theorem dX9_init_61 : decode cX9_init 61 = .ok (.anewarray 30, 3) := by decide +kernel
theorem dX9_init_64 : decode cX9_init 64 = .ok (.putfield 40, 3) := by decide +kernel
theorem dX9_init_67 : decode cX9_init 67 = .ok (.aload_n 0, 1) := by decide +kernel
theorem dX9_init_68 : decode cX9_init 68 = .ok (.new 44, 3) := by decide +kernel
theorem dX9_init_71 : decode cX9_init 71 = .ok (.dup, 1) := by decide +kernel
theorem dX9_init_72 : decode cX9_init 72 = .ok (.invokespecial 46, 3) := by decide +kernel
theorem dX9_init_75 : decode cX9_init 75 = .ok (.putfield 47, 3) := by decide +kernel
theorem dX9_init_78 : decode cX9_init 78 = .ok (.aload_n 0, 1) := by decide +kernel
theorem dX9_init_79 : decode cX9_init 79 = .ok (.new 51, 3) := by decide +kernel
theorem dX9_init_82 : decode cX9_init 82 = .ok (.dup, 1) := by decide +kernel
theorem dX9_init_83 : decode cX9_init 83 = .ok (.invokespecial 53, 3) := by decide +kernel
theorem dX9_init_86 : decode cX9_init 86 = .ok (.putfield 54, 3) := by decide +kernel
theorem dX9_init_89 : decode cX9_init 89 = .ok (.aload_n 0, 1) := by decide +kernel
theorem dX9_init_90 : decode cX9_init 90 = .ok (.new 58, 3) := by decide +kernel
theorem dX9_init_93 : decode cX9_init 93 = .ok (.dup, 1) := by decide +kernel
theorem dX9_init_94 : decode cX9_init 94 = .ok (.invokespecial 60, 3) := by decide +kernel
theorem dX9_init_97 : decode cX9_init 97 = .ok (.putfield 61, 3) := by decide +kernel
theorem dX9_init_100 : decode cX9_init 100 = .ok (.aload_n 0, 1) := by decide +kernel
theorem dX9_init_101 : decode cX9_init 101 = .ok (.new 65, 3) := by decide +kernel
theorem dX9_init_104 : decode cX9_init 104 = .ok (.dup, 1) := by decide +kernel
theorem dX9_init_105 : decode cX9_init 105 = .ok (.invokespecial 67, 3) := by decide +kernel
theorem dX9_init_108 : decode cX9_init 108 = .ok (.putfield 68, 3) := by decide +kernel
theorem dX9_init_111 : decode cX9_init 111 = .ok (.aload_n 0, 1) := by decide +kernel
theorem dX9_init_112 : decode cX9_init 112 = .ok (.iconst 0, 1) := by decide +kernel
theorem dX9_init_113 : decode cX9_init 113 = .ok (.putfield 72, 3) := by decide +kernel
theorem dX9_init_116 : decode cX9_init 116 = .ok (.aload_n 0, 1) := by decide +kernel
theorem dX9_init_117 : decode cX9_init 117 = .ok (.iconst 0, 1) := by decide +kernel
theorem dX9_init_118 : decode cX9_init 118 = .ok (.putfield 76, 3) := by decide +kernel
theorem dX9_init_121 : decode cX9_init 121 = .ok (.aload_n 0, 1) := by decide +kernel
theorem dX9_init_122 : decode cX9_init 122 = .ok (.iconst 0, 1) := by decide +kernel
theorem dX9_init_123 : decode cX9_init 123 = .ok (.putfield 79, 3) := by decide +kernel
theorem dX9_init_126 : decode cX9_init 126 = .ok (.aload_n 0, 1) := by decide +kernel
theorem dX9_init_127 : decode cX9_init 127 = .ok (.iconst 1, 1) := by decide +kernel
theorem dX9_init_128 : decode cX9_init 128 = .ok (.putfield 82, 3) := by decide +kernel
theorem dX9_init_131 : decode cX9_init 131 = .ok (.iconst 0, 1) := by decide +kernel
theorem dX9_init_132 : decode cX9_init 132 = .ok (.istore_n 1, 1) := by decide +kernel
theorem dX9_init_133 : decode cX9_init 133 = .ok (.iload_n 1, 1) := by decide +kernel
theorem dX9_init_134 : decode cX9_init 134 = .ok (.iconst 2, 1) := by decide +kernel
theorem dX9_init_135 : decode cX9_init 135 = .ok (.if_icmp .ge 22, 3) := by decide +kernel
theorem dX9_init_138 : decode cX9_init 138 = .ok (.aload_n 0, 1) := by decide +kernel
theorem dX9_init_139 : decode cX9_init 139 = .ok (.getfield 40, 3) := by decide +kernel
theorem dX9_init_142 : decode cX9_init 142 = .ok (.iload_n 1, 1) := by decide +kernel
theorem dX9_init_143 : decode cX9_init 143 = .ok (.new 30, 3) := by decide +kernel
theorem dX9_init_146 : decode cX9_init 146 = .ok (.dup, 1) := by decide +kernel
theorem dX9_init_147 : decode cX9_init 147 = .ok (.invokespecial 32, 3) := by decide +kernel
theorem dX9_init_150 : decode cX9_init 150 = .ok (.aastore, 1) := by decide +kernel
theorem dX9_init_151 : decode cX9_init 151 = .ok (.iinc 1 1, 3) := by decide +kernel
theorem dX9_init_154 : decode cX9_init 154 = .ok (.goto (-21), 3) := by decide +kernel
theorem dX9_init_157 : decode cX9_init 157 = .ok (.iconst 0, 1) := by decide +kernel
theorem dX9_init_158 : decode cX9_init 158 = .ok (.istore_n 1, 1) := by decide +kernel
theorem dX9_init_159 : decode cX9_init 159 = .ok (.iload_n 1, 1) := by decide +kernel
theorem dX9_init_160 : decode cX9_init 160 = .ok (.ldc 85, 2) := by decide +kernel
theorem dX9_init_162 : decode cX9_init 162 = .ok (.invokevirtual 87, 3) := by decide +kernel
theorem dX9_init_165 : decode cX9_init 165 = .ok (.if_icmp .ge 22, 3) := by decide +kernel
theorem dX9_init_168 : decode cX9_init 168 = .ok (.aload_n 0, 1) := by decide +kernel
theorem dX9_init_169 : decode cX9_init 169 = .ok (.getfield 10, 3) := by decide +kernel
theorem dX9_init_172 : decode cX9_init 172 = .ok (.ldc 85, 2) := by decide +kernel
theorem dX9_init_174 : decode cX9_init 174 = .ok (.iload_n 1, 1) := by decide +kernel
theorem dX9_init_175 : decode cX9_init 175 = .ok (.invokevirtual 93, 3) := by decide +kernel
theorem dX9_init_178 : decode cX9_init 178 = .ok (.invokevirtual 97, 3) := by decide +kernel
theorem dX9_init_181 : decode cX9_init 181 = .ok (.iinc 1 1, 3) := by decide +kernel
theorem dX9_init_184 : decode cX9_init 184 = .ok (.goto (-25), 3) := by decide +kernel
theorem dX9_init_187 : decode cX9_init 187 = .ok (.aload_n 0, 1) := by decide +kernel
theorem dX9_init_188 : decode cX9_init 188 = .ok (.invokevirtual 101, 3) := by decide +kernel
theorem dX9_init_191 : decode cX9_init 191 = .ok (.aload_n 0, 1) := by decide +kernel
theorem dX9_init_192 : decode cX9_init 192 = .ok (.getfield 10, 3) := by decide +kernel
theorem dX9_init_195 : decode cX9_init 195 = .ok (.invokevirtual 104, 3) := by decide +kernel
theorem dX9_init_198 : decode cX9_init 198 = .ok (.pop, 1) := by decide +kernel
theorem dX9_init_199 : decode cX9_init 199 = .ok (.return_, 1) := by decide +kernel
theorem dX9_write_0 : decode cX9_write 0 = .ok (.iload_n 1, 1) := by decide +kernel
theorem dX9_write_1 : decode cX9_write 1 = .ok (.bipush 32, 2) := by decide +kernel
theorem dX9_write_3 : decode cX9_write 3 = .ok (.if_icmp .lt 9, 3) := by decide +kernel
theorem dX9_write_6 : decode cX9_write 6 = .ok (.iload_n 1, 1) := by decide +kernel
theorem dX9_write_7 : decode cX9_write 7 = .ok (.bipush 126, 2) := by decide +kernel
theorem dX9_write_9 : decode cX9_write 9 = .ok (.if_icmp .le 5, 3) := by decide +kernel
theorem dX9_write_12 : decode cX9_write 12 = .ok (.iconst (-1), 1) := by decide +kernel
theorem dX9_write_13 : decode cX9_write 13 = .ok (.ireturn, 1) := by decide +kernel
theorem dX9_write_14 : decode cX9_write 14 = .ok (.aload_n 0, 1) := by decide +kernel
theorem dX9_write_15 : decode cX9_write 15 = .ok (.getfield 10, 3) := by decide +kernel
theorem dX9_write_18 : decode cX9_write 18 = .ok (.getfield 107, 3) := by decide +kernel
theorem dX9_write_21 : decode cX9_write 21 = .ok (.sipush 200, 3) := by decide +kernel
theorem dX9_write_24 : decode cX9_write 24 = .ok (.if_icmp .lt 6, 3) := by decide +kernel
theorem dX9_write_27 : decode cX9_write 27 = .ok (.bipush (-3), 2) := by decide +kernel
theorem dX9_write_29 : decode cX9_write 29 = .ok (.ireturn, 1) := by decide +kernel
theorem dX9_write_30 : decode cX9_write 30 = .ok (.aload_n 0, 1) := by decide +kernel
theorem dX9_write_31 : decode cX9_write 31 = .ok (.getfield 10, 3) := by decide +kernel
theorem dX9_write_34 : decode cX9_write 34 = .ok (.iload_n 1, 1) := by decide +kernel
theorem dX9_write_35 : decode cX9_write 35 = .ok (.i2c, 1) := by decide +kernel
theorem dX9_write_36 : decode cX9_write 36 = .ok (.invokevirtual 97, 3) := by decide +kernel
theorem dX9_write_39 : decode cX9_write 39 = .ok (.aload_n 0, 1) := by decide +kernel
theorem dX9_write_40 : decode cX9_write 40 = .ok (.getfield 10, 3) := by decide +kernel
theorem dX9_write_43 : decode cX9_write 43 = .ok (.getfield 107, 3) := by decide +kernel
theorem dX9_write_46 : decode cX9_write 46 = .ok (.ireturn, 1) := by decide +kernel
theorem dX9_wipe_0 : decode cX9_wipe 0 = .ok (.aload_n 0, 1) := by decide +kernel
theorem dX9_wipe_1 : decode cX9_wipe 1 = .ok (.getfield 10, 3) := by decide +kernel
theorem dX9_wipe_4 : decode cX9_wipe 4 = .ok (.invokevirtual 104, 3) := by decide +kernel
theorem dX9_wipe_7 : decode cX9_wipe 7 = .ok (.ireturn, 1) := by decide +kernel
theorem dX9_fault_0 : decode cX9_fault 0 = .ok (.aload_n 0, 1) := by decide +kernel
theorem dX9_fault_1 : decode cX9_fault 1 = .ok (.getfield 10, 3) := by decide +kernel
theorem dX9_fault_4 : decode cX9_fault 4 = .ok (.invokevirtual 110, 3) := by decide +kernel
theorem dX9_fault_7 : decode cX9_fault 7 = .ok (.ireturn, 1) := by decide +kernel
theorem dX9_lay_0 : decode cX9_lay 0 = .ok (.aload_n 0, 1) := by decide +kernel
theorem dX9_lay_1 : decode cX9_lay 1 = .ok (.getfield 10, 3) := by decide +kernel
theorem dX9_lay_4 : decode cX9_lay 4 = .ok (.invokevirtual 110, 3) := by decide +kernel
theorem dX9_lay_7 : decode cX9_lay 7 = .ok (.bipush (-4), 2) := by decide +kernel
theorem dX9_lay_9 : decode cX9_lay 9 = .ok (.if_icmp .ne 13, 3) := by decide +kernel
theorem dX9_lay_12 : decode cX9_lay 12 = .ok (.aload_n 0, 1) := by decide +kernel
theorem dX9_lay_13 : decode cX9_lay 13 = .ok (.getfield 10, 3) := by decide +kernel
theorem dX9_lay_16 : decode cX9_lay 16 = .ok (.invokevirtual 113, 3) := by decide +kernel
theorem dX9_lay_19 : decode cX9_lay 19 = .ok (.ifCond .ne 6, 3) := by decide +kernel
theorem dX9_lay_22 : decode cX9_lay 22 = .ok (.bipush (-2), 2) := by decide +kernel
theorem dX9_lay_24 : decode cX9_lay 24 = .ok (.ireturn, 1) := by decide +kernel
theorem dX9_lay_25 : decode cX9_lay 25 = .ok (.aload_n 0, 1) := by decide +kernel
theorem dX9_lay_26 : decode cX9_lay 26 = .ok (.invokevirtual 101, 3) := by decide +kernel
theorem dX9_lay_29 : decode cX9_lay 29 = .ok (.aload_n 0, 1) := by decide +kernel
theorem dX9_lay_30 : decode cX9_lay 30 = .ok (.getfield 19, 3) := by decide +kernel
theorem dX9_lay_33 : decode cX9_lay 33 = .ok (.getfield 117, 3) := by decide +kernel
theorem dX9_lay_36 : decode cX9_lay 36 = .ok (.ireturn, 1) := by decide +kernel
theorem dX9_name_0 : decode cX9_name 0 = .ok (.aload_n 0, 1) := by decide +kernel
theorem dX9_name_1 : decode cX9_name 1 = .ok (.getfield 19, 3) := by decide +kernel
theorem dX9_name_4 : decode cX9_name 4 = .ok (.iload_n 1, 1) := by decide +kernel
theorem dX9_name_5 : decode cX9_name 5 = .ok (.invokevirtual 118, 3) := by decide +kernel
theorem dX9_name_8 : decode cX9_name 8 = .ok (.ifCond .ne 5, 3) := by decide +kernel
theorem dX9_name_11 : decode cX9_name 11 = .ok (.iconst (-1), 1) := by decide +kernel
theorem dX9_name_12 : decode cX9_name 12 = .ok (.ireturn, 1) := by decide +kernel
theorem dX9_name_13 : decode cX9_name 13 = .ok (.aload_n 0, 1) := by decide +kernel
theorem dX9_name_14 : decode cX9_name 14 = .ok (.getfield 19, 3) := by decide +kernel
theorem dX9_name_17 : decode cX9_name 17 = .ok (.getfield 122, 3) := by decide +kernel
theorem dX9_name_20 : decode cX9_name 20 = .ok (.iload_n 1, 1) := by decide +kernel
theorem dX9_name_21 : decode cX9_name 21 = .ok (.aaload, 1) := by decide +kernel
theorem dX9_name_22 : decode cX9_name 22 = .ok (.astore_n 3, 1) := by decide +kernel
theorem dX9_name_23 : decode cX9_name 23 = .ok (.iload_n 2, 1) := by decide +kernel
theorem dX9_name_24 : decode cX9_name 24 = .ok (.tableswitch 61 0 4 #[36, 41, 46, 51, 56], 36) := by decide +kernel
theorem dX9_name_60 : decode cX9_name 60 = .ok (.aload_n 3, 1) := by decide +kernel
theorem dX9_name_61 : decode cX9_name 61 = .ok (.getfield 126, 3) := by decide +kernel
theorem dX9_name_64 : decode cX9_name 64 = .ok (.ireturn, 1) := by decide +kernel
theorem dX9_name_65 : decode cX9_name 65 = .ok (.aload_n 3, 1) := by decide +kernel
theorem dX9_name_66 : decode cX9_name 66 = .ok (.getfield 131, 3) := by decide +kernel
theorem dX9_name_69 : decode cX9_name 69 = .ok (.ireturn, 1) := by decide +kernel
theorem dX9_name_70 : decode cX9_name 70 = .ok (.aload_n 3, 1) := by decide +kernel
theorem dX9_name_71 : decode cX9_name 71 = .ok (.getfield 132, 3) := by decide +kernel
theorem dX9_name_74 : decode cX9_name 74 = .ok (.ireturn, 1) := by decide +kernel
theorem dX9_name_75 : decode cX9_name 75 = .ok (.aload_n 3, 1) := by decide +kernel
theorem dX9_name_76 : decode cX9_name 76 = .ok (.getfield 135, 3) := by decide +kernel
theorem dX9_name_79 : decode cX9_name 79 = .ok (.ireturn, 1) := by decide +kernel
theorem dX9_name_80 : decode cX9_name 80 = .ok (.aload_n 3, 1) := by decide +kernel
theorem dX9_name_81 : decode cX9_name 81 = .ok (.getfield 138, 3) := by decide +kernel
theorem dX9_name_84 : decode cX9_name 84 = .ok (.ireturn, 1) := by decide +kernel
theorem dX9_name_85 : decode cX9_name 85 = .ok (.iconst (-1), 1) := by decide +kernel
theorem dX9_name_86 : decode cX9_name 86 = .ok (.ireturn, 1) := by decide +kernel
theorem dX9_sign_0 : decode cX9_sign 0 = .ok (.aload_n 0, 1) := by decide +kernel
theorem dX9_sign_1 : decode cX9_sign 1 = .ok (.getfield 19, 3) := by decide +kernel
theorem dX9_sign_4 : decode cX9_sign 4 = .ok (.iload_n 1, 1) := by decide +kernel
theorem dX9_sign_5 : decode cX9_sign 5 = .ok (.invokevirtual 118, 3) := by decide +kernel
theorem dX9_sign_8 : decode cX9_sign 8 = .ok (.ifCond .eq 7, 3) := by decide +kernel
theorem dX9_sign_11 : decode cX9_sign 11 = .ok (.iload_n 2, 1) := by decide +kernel
theorem dX9_sign_12 : decode cX9_sign 12 = .ok (.ifCond .ge 5, 3) := by decide +kernel
theorem dX9_sign_15 : decode cX9_sign 15 = .ok (.iconst (-1), 1) := by decide +kernel
theorem dX9_sign_16 : decode cX9_sign 16 = .ok (.ireturn, 1) := by decide +kernel
theorem dX9_sign_17 : decode cX9_sign 17 = .ok (.aload_n 0, 1) := by decide +kernel
theorem dX9_sign_18 : decode cX9_sign 18 = .ok (.getfield 19, 3) := by decide +kernel
theorem dX9_sign_21 : decode cX9_sign 21 = .ok (.getfield 122, 3) := by decide +kernel
theorem dX9_sign_24 : decode cX9_sign 24 = .ok (.iload_n 1, 1) := by decide +kernel
theorem dX9_sign_25 : decode cX9_sign 25 = .ok (.aaload, 1) := by decide +kernel
theorem dX9_sign_26 : decode cX9_sign 26 = .ok (.astore_n 3, 1) := by decide +kernel
theorem dX9_sign_27 : decode cX9_sign 27 = .ok (.iload_n 2, 1) := by decide +kernel
theorem dX9_sign_28 : decode cX9_sign 28 = .ok (.aload_n 3, 1) := by decide +kernel
theorem dX9_sign_29 : decode cX9_sign 29 = .ok (.getfield 131, 3) := by decide +kernel
theorem dX9_sign_32 : decode cX9_sign 32 = .ok (.if_icmp .ge 12, 3) := by decide +kernel
theorem dX9_sign_35 : decode cX9_sign 35 = .ok (.aload_n 3, 1) := by decide +kernel
theorem dX9_sign_36 : decode cX9_sign 36 = .ok (.getfield 141, 3) := by decide +kernel
theorem dX9_sign_39 : decode cX9_sign 39 = .ok (.iload_n 2, 1) := by decide +kernel
theorem dX9_sign_40 : decode cX9_sign 40 = .ok (.caload, 1) := by decide +kernel
theorem dX9_sign_41 : decode cX9_sign 41 = .ok (.goto 5, 3) := by decide +kernel
theorem dX9_sign_44 : decode cX9_sign 44 = .ok (.bipush (-4), 2) := by decide +kernel
theorem dX9_sign_46 : decode cX9_sign 46 = .ok (.ireturn, 1) := by decide +kernel
theorem dX9_layText_0 : decode cX9_layText 0 = .ok (.aload_n 0, 1) := by decide +kernel
theorem dX9_layText_1 : decode cX9_layText 1 = .ok (.getfield 19, 3) := by decide +kernel
theorem dX9_layText_4 : decode cX9_layText 4 = .ok (.invokevirtual 145, 3) := by decide +kernel
theorem dX9_layText_7 : decode cX9_layText 7 = .ok (.aload_n 0, 1) := by decide +kernel
theorem dX9_layText_8 : decode cX9_layText 8 = .ok (.getfield 26, 3) := by decide +kernel
theorem dX9_layText_11 : decode cX9_layText 11 = .ok (.invokevirtual 147, 3) := by decide +kernel
theorem dX9_layText_14 : decode cX9_layText 14 = .ok (.iconst 0, 1) := by decide +kernel
theorem dX9_layText_15 : decode cX9_layText 15 = .ok (.istore_n 1, 1) := by decide +kernel
theorem dX9_layText_16 : decode cX9_layText 16 = .ok (.iconst 0, 1) := by decide +kernel
theorem dX9_layText_17 : decode cX9_layText 17 = .ok (.istore_n 2, 1) := by decide +kernel
theorem dX9_layText_18 : decode cX9_layText 18 = .ok (.iload_n 2, 1) := by decide +kernel
theorem dX9_layText_19 : decode cX9_layText 19 = .ok (.sipush 200, 3) := by decide +kernel
theorem dX9_layText_22 : decode cX9_layText 22 = .ok (.if_icmp .ge 38, 3) := by decide +kernel
theorem dX9_layText_25 : decode cX9_layText 25 = .ok (.iload_n 1, 1) := by decide +kernel
theorem dX9_layText_26 : decode cX9_layText 26 = .ok (.ifCond .lt 34, 3) := by decide +kernel
theorem dX9_layText_29 : decode cX9_layText 29 = .ok (.iload_n 1, 1) := by decide +kernel
theorem dX9_layText_30 : decode cX9_layText 30 = .ok (.aload_n 0, 1) := by decide +kernel
theorem dX9_layText_31 : decode cX9_layText 31 = .ok (.getfield 10, 3) := by decide +kernel
theorem dX9_layText_34 : decode cX9_layText 34 = .ok (.getfield 107, 3) := by decide +kernel
theorem dX9_layText_37 : decode cX9_layText 37 = .ok (.if_icmp .ge 23, 3) := by decide +kernel
theorem dX9_layText_40 : decode cX9_layText 40 = .ok (.aload_n 0, 1) := by decide +kernel
theorem dX9_layText_41 : decode cX9_layText 41 = .ok (.iload_n 1, 1) := by decide +kernel
theorem dX9_layText_42 : decode cX9_layText 42 = .ok (.invokevirtual 150, 3) := by decide +kernel
theorem dX9_layText_45 : decode cX9_layText 45 = .ok (.aload_n 0, 1) := by decide +kernel
theorem dX9_layText_46 : decode cX9_layText 46 = .ok (.getfield 10, 3) := by decide +kernel
theorem dX9_layText_49 : decode cX9_layText 49 = .ok (.iload_n 1, 1) := by decide +kernel
theorem dX9_layText_50 : decode cX9_layText 50 = .ok (.invokevirtual 154, 3) := by decide +kernel
theorem dX9_layText_53 : decode cX9_layText 53 = .ok (.istore_n 1, 1) := by decide +kernel
theorem dX9_layText_54 : decode cX9_layText 54 = .ok (.iinc 2 1, 3) := by decide +kernel
theorem dX9_layText_57 : decode cX9_layText 57 = .ok (.goto (-39), 3) := by decide +kernel
theorem dX9_layText_60 : decode cX9_layText 60 = .ok (.aload_n 0, 1) := by decide +kernel
theorem dX9_layText_61 : decode cX9_layText 61 = .ok (.getfield 33, 3) := by decide +kernel
theorem dX9_layText_64 : decode cX9_layText 64 = .ok (.invokevirtual 158, 3) := by decide +kernel
theorem dX9_layText_67 : decode cX9_layText 67 = .ok (.aload_n 0, 1) := by decide +kernel
theorem dX9_layText_68 : decode cX9_layText 68 = .ok (.iconst 0, 1) := by decide +kernel
theorem dX9_layText_69 : decode cX9_layText 69 = .ok (.putfield 72, 3) := by decide +kernel
theorem dX9_layText_72 : decode cX9_layText 72 = .ok (.aload_n 0, 1) := by decide +kernel
theorem dX9_layText_73 : decode cX9_layText 73 = .ok (.dup, 1) := by decide +kernel
theorem dX9_layText_74 : decode cX9_layText 74 = .ok (.getfield 79, 3) := by decide +kernel
theorem dX9_layText_77 : decode cX9_layText 77 = .ok (.iconst 1, 1) := by decide +kernel
theorem dX9_layText_78 : decode cX9_layText 78 = .ok (.iadd, 1) := by decide +kernel
theorem dX9_layText_79 : decode cX9_layText 79 = .ok (.putfield 79, 3) := by decide +kernel
theorem dX9_layText_82 : decode cX9_layText 82 = .ok (.return_, 1) := by decide +kernel
theorem dX9_readItem_0 : decode cX9_readItem 0 = .ok (.aload_n 0, 1) := by decide +kernel
theorem dX9_readItem_1 : decode cX9_readItem 1 = .ok (.getfield 10, 3) := by decide +kernel
theorem dX9_readItem_4 : decode cX9_readItem 4 = .ok (.iload_n 1, 1) := by decide +kernel
theorem dX9_readItem_5 : decode cX9_readItem 5 = .ok (.invokevirtual 159, 3) := by decide +kernel
theorem dX9_readItem_8 : decode cX9_readItem 8 = .ok (.bipush 119, 2) := by decide +kernel
theorem dX9_readItem_10 : decode cX9_readItem 10 = .ok (.if_icmp .ne 41, 3) := by decide +kernel
theorem dX9_readItem_13 : decode cX9_readItem 13 = .ok (.aload_n 0, 1) := by decide +kernel
theorem dX9_readItem_14 : decode cX9_readItem 14 = .ok (.getfield 26, 3) := by decide +kernel
theorem dX9_readItem_17 : decode cX9_readItem 17 = .ok (.aload_n 0, 1) := by decide +kernel
theorem dX9_readItem_18 : decode cX9_readItem 18 = .ok (.getfield 10, 3) := by decide +kernel
theorem dX9_readItem_21 : decode cX9_readItem 21 = .ok (.iload_n 1, 1) := by decide +kernel
theorem dX9_readItem_22 : decode cX9_readItem 22 = .ok (.iconst 1, 1) := by decide +kernel
theorem dX9_readItem_23 : decode cX9_readItem 23 = .ok (.iadd, 1) := by decide +kernel
theorem dX9_readItem_24 : decode cX9_readItem 24 = .ok (.invokevirtual 162, 3) := by decide +kernel
theorem dX9_readItem_27 : decode cX9_readItem 27 = .ok (.aload_n 0, 1) := by decide +kernel
theorem dX9_readItem_28 : decode cX9_readItem 28 = .ok (.getfield 10, 3) := by decide +kernel
theorem dX9_readItem_31 : decode cX9_readItem 31 = .ok (.iload_n 1, 1) := by decide +kernel
theorem dX9_readItem_32 : decode cX9_readItem 32 = .ok (.iconst 3, 1) := by decide +kernel
theorem dX9_readItem_33 : decode cX9_readItem 33 = .ok (.iadd, 1) := by decide +kernel
theorem dX9_readItem_34 : decode cX9_readItem 34 = .ok (.invokevirtual 162, 3) := by decide +kernel
theorem dX9_readItem_37 : decode cX9_readItem 37 = .ok (.aload_n 0, 1) := by decide +kernel
theorem dX9_readItem_38 : decode cX9_readItem 38 = .ok (.getfield 10, 3) := by decide +kernel
theorem dX9_readItem_41 : decode cX9_readItem 41 = .ok (.iload_n 1, 1) := by decide +kernel
theorem dX9_readItem_42 : decode cX9_readItem 42 = .ok (.iconst 5, 1) := by decide +kernel
theorem dX9_readItem_43 : decode cX9_readItem 43 = .ok (.iadd, 1) := by decide +kernel
theorem dX9_readItem_44 : decode cX9_readItem 44 = .ok (.invokevirtual 162, 3) := by decide +kernel
theorem dX9_readItem_47 : decode cX9_readItem 47 = .ok (.invokevirtual 165, 3) := by decide +kernel
theorem dX9_readItem_50 : decode cX9_readItem 50 = .ok (.return_, 1) := by decide +kernel
theorem dX9_readItem_51 : decode cX9_readItem 51 = .ok (.aload_n 0, 1) := by decide +kernel
theorem dX9_readItem_52 : decode cX9_readItem 52 = .ok (.getfield 19, 3) := by decide +kernel
theorem dX9_readItem_55 : decode cX9_readItem 55 = .ok (.getfield 117, 3) := by decide +kernel
theorem dX9_readItem_58 : decode cX9_readItem 58 = .ok (.bipush 8, 2) := by decide +kernel
theorem dX9_readItem_60 : decode cX9_readItem 60 = .ok (.if_icmp .lt 4, 3) := by decide +kernel
theorem dX9_readItem_63 : decode cX9_readItem 63 = .ok (.return_, 1) := by decide +kernel
theorem dX9_readItem_64 : decode cX9_readItem 64 = .ok (.aload_n 0, 1) := by decide +kernel
theorem dX9_readItem_65 : decode cX9_readItem 65 = .ok (.getfield 19, 3) := by decide +kernel
theorem dX9_readItem_68 : decode cX9_readItem 68 = .ok (.aload_n 0, 1) := by decide +kernel
theorem dX9_readItem_69 : decode cX9_readItem 69 = .ok (.getfield 10, 3) := by decide +kernel
theorem dX9_readItem_72 : decode cX9_readItem 72 = .ok (.iload_n 1, 1) := by decide +kernel
theorem dX9_readItem_73 : decode cX9_readItem 73 = .ok (.iconst 1, 1) := by decide +kernel
theorem dX9_readItem_74 : decode cX9_readItem 74 = .ok (.iadd, 1) := by decide +kernel
theorem dX9_readItem_75 : decode cX9_readItem 75 = .ok (.invokevirtual 162, 3) := by decide +kernel
theorem dX9_readItem_78 : decode cX9_readItem 78 = .ok (.invokevirtual 169, 3) := by decide +kernel
theorem dX9_readItem_81 : decode cX9_readItem 81 = .ok (.astore_n 2, 1) := by decide +kernel
theorem dX9_readItem_82 : decode cX9_readItem 82 = .ok (.iconst 0, 1) := by decide +kernel
theorem dX9_readItem_83 : decode cX9_readItem 83 = .ok (.istore_n 3, 1) := by decide +kernel
theorem dX9_readItem_84 : decode cX9_readItem 84 = .ok (.iload_n 3, 1) := by decide +kernel
theorem dX9_readItem_85 : decode cX9_readItem 85 = .ok (.bipush 12, 2) := by decide +kernel
theorem dX9_readItem_87 : decode cX9_readItem 87 = .ok (.if_icmp .ge 43, 3) := by decide +kernel
theorem dX9_readItem_90 : decode cX9_readItem 90 = .ok (.aload_n 0, 1) := by decide +kernel
theorem dX9_readItem_91 : decode cX9_readItem 91 = .ok (.getfield 10, 3) := by decide +kernel
theorem dX9_readItem_94 : decode cX9_readItem 94 = .ok (.iload_n 1, 1) := by decide +kernel
theorem dX9_readItem_95 : decode cX9_readItem 95 = .ok (.iconst 3, 1) := by decide +kernel
theorem dX9_readItem_96 : decode cX9_readItem 96 = .ok (.iadd, 1) := by decide +kernel
theorem dX9_readItem_97 : decode cX9_readItem 97 = .ok (.iload_n 3, 1) := by decide +kernel
theorem dX9_readItem_98 : decode cX9_readItem 98 = .ok (.iadd, 1) := by decide +kernel
theorem dX9_readItem_99 : decode cX9_readItem 99 = .ok (.invokevirtual 159, 3) := by decide +kernel
theorem dX9_readItem_102 : decode cX9_readItem 102 = .ok (.invokestatic 173, 3) := by decide +kernel
theorem dX9_readItem_105 : decode cX9_readItem 105 = .ok (.ifCond .eq 25, 3) := by decide +kernel
theorem dX9_readItem_108 : decode cX9_readItem 108 = .ok (.aload_n 2, 1) := by decide +kernel
theorem dX9_readItem_109 : decode cX9_readItem 109 = .ok (.aload_n 0, 1) := by decide +kernel
theorem dX9_readItem_110 : decode cX9_readItem 110 = .ok (.getfield 10, 3) := by decide +kernel
theorem dX9_readItem_113 : decode cX9_readItem 113 = .ok (.iload_n 1, 1) := by decide +kernel
theorem dX9_readItem_114 : decode cX9_readItem 114 = .ok (.iconst 3, 1) := by decide +kernel
theorem dX9_readItem_115 : decode cX9_readItem 115 = .ok (.iadd, 1) := by decide +kernel
theorem dX9_readItem_116 : decode cX9_readItem 116 = .ok (.iload_n 3, 1) := by decide +kernel
theorem dX9_readItem_117 : decode cX9_readItem 117 = .ok (.iadd, 1) := by decide +kernel
theorem dX9_readItem_118 : decode cX9_readItem 118 = .ok (.invokevirtual 159, 3) := by decide +kernel
theorem dX9_readItem_121 : decode cX9_readItem 121 = .ok (.invokevirtual 176, 3) := by decide +kernel
theorem dX9_readItem_124 : decode cX9_readItem 124 = .ok (.iinc 3 1, 3) := by decide +kernel
theorem dX9_readItem_127 : decode cX9_readItem 127 = .ok (.goto (-43), 3) := by decide +kernel
theorem dX9_readItem_130 : decode cX9_readItem 130 = .ok (.return_, 1) := by decide +kernel
theorem dX9_type_0 : decode cX9_type 0 = .ok (.iload_n 1, 1) := by decide +kernel
theorem dX9_type_1 : decode cX9_type 1 = .ok (.invokestatic 179, 3) := by decide +kernel
theorem dX9_type_4 : decode cX9_type 4 = .ok (.ifCond .ne 5, 3) := by decide +kernel
theorem dX9_type_7 : decode cX9_type 7 = .ok (.iconst (-1), 1) := by decide +kernel
theorem dX9_type_8 : decode cX9_type 8 = .ok (.ireturn, 1) := by decide +kernel
theorem dX9_type_9 : decode cX9_type 9 = .ok (.aload_n 0, 1) := by decide +kernel
theorem dX9_type_10 : decode cX9_type 10 = .ok (.getfield 33, 3) := by decide +kernel
theorem dX9_type_13 : decode cX9_type 13 = .ok (.getfield 182, 3) := by decide +kernel
theorem dX9_type_16 : decode cX9_type 16 = .ok (.bipush 6, 2) := by decide +kernel
theorem dX9_type_18 : decode cX9_type 18 = .ok (.if_icmp .lt 6, 3) := by decide +kernel
theorem dX9_type_21 : decode cX9_type 21 = .ok (.bipush (-3), 2) := by decide +kernel
theorem dX9_type_23 : decode cX9_type 23 = .ok (.ireturn, 1) := by decide +kernel
theorem dX9_type_24 : decode cX9_type 24 = .ok (.aload_n 0, 1) := by decide +kernel
theorem dX9_type_25 : decode cX9_type 25 = .ok (.getfield 33, 3) := by decide +kernel
theorem dX9_type_28 : decode cX9_type 28 = .ok (.iload_n 1, 1) := by decide +kernel
theorem dX9_type_29 : decode cX9_type 29 = .ok (.i2c, 1) := by decide +kernel
theorem dX9_type_30 : decode cX9_type 30 = .ok (.invokevirtual 183, 3) := by decide +kernel
theorem dX9_type_33 : decode cX9_type 33 = .ok (.aload_n 0, 1) := by decide +kernel
theorem dX9_type_34 : decode cX9_type 34 = .ok (.getfield 33, 3) := by decide +kernel
theorem dX9_type_37 : decode cX9_type 37 = .ok (.getfield 182, 3) := by decide +kernel
theorem dX9_type_40 : decode cX9_type 40 = .ok (.ireturn, 1) := by decide +kernel
theorem dX9_untype_0 : decode cX9_untype 0 = .ok (.aload_n 0, 1) := by decide +kernel
theorem dX9_untype_1 : decode cX9_untype 1 = .ok (.getfield 33, 3) := by decide +kernel
theorem dX9_untype_4 : decode cX9_untype 4 = .ok (.invokevirtual 186, 3) := by decide +kernel
theorem dX9_untype_7 : decode cX9_untype 7 = .ok (.ireturn, 1) := by decide +kernel
theorem dX9_roll_0 : decode cX9_roll 0 = .ok (.aload_n 0, 1) := by decide +kernel
theorem dX9_roll_1 : decode cX9_roll 1 = .ok (.getfield 33, 3) := by decide +kernel
theorem dX9_roll_4 : decode cX9_roll 4 = .ok (.getfield 182, 3) := by decide +kernel
theorem dX9_roll_7 : decode cX9_roll 7 = .ok (.bipush 6, 2) := by decide +kernel
theorem dX9_roll_9 : decode cX9_roll 9 = .ok (.if_icmp .lt 6, 3) := by decide +kernel
theorem dX9_roll_12 : decode cX9_roll 12 = .ok (.bipush (-3), 2) := by decide +kernel
theorem dX9_roll_14 : decode cX9_roll 14 = .ok (.ireturn, 1) := by decide +kernel
theorem dX9_roll_15 : decode cX9_roll 15 = .ok (.aload_n 0, 1) := by decide +kernel
theorem dX9_roll_16 : decode cX9_roll 16 = .ok (.sipush 7919, 3) := by decide +kernel
theorem dX9_roll_19 : decode cX9_roll 19 = .ok (.aload_n 0, 1) := by decide +kernel
theorem dX9_roll_20 : decode cX9_roll 20 = .ok (.getfield 82, 3) := by decide +kernel
theorem dX9_roll_23 : decode cX9_roll 23 = .ok (.imul, 1) := by decide +kernel
theorem dX9_roll_24 : decode cX9_roll 24 = .ok (.sipush 12345, 3) := by decide +kernel
theorem dX9_roll_27 : decode cX9_roll 27 = .ok (.iadd, 1) := by decide +kernel
theorem dX9_roll_28 : decode cX9_roll 28 = .ok (.ldc 189, 2) := by decide +kernel
theorem dX9_roll_30 : decode cX9_roll 30 = .ok (.irem, 1) := by decide +kernel
theorem dX9_roll_31 : decode cX9_roll 31 = .ok (.putfield 82, 3) := by decide +kernel
theorem dX9_roll_34 : decode cX9_roll 34 = .ok (.bipush 97, 2) := by decide +kernel
theorem dX9_roll_36 : decode cX9_roll 36 = .ok (.aload_n 0, 1) := by decide +kernel
theorem dX9_roll_37 : decode cX9_roll 37 = .ok (.getfield 82, 3) := by decide +kernel
theorem dX9_roll_40 : decode cX9_roll 40 = .ok (.bipush 26, 2) := by decide +kernel
theorem dX9_roll_42 : decode cX9_roll 42 = .ok (.irem, 1) := by decide +kernel
theorem dX9_roll_43 : decode cX9_roll 43 = .ok (.iadd, 1) := by decide +kernel
theorem dX9_roll_44 : decode cX9_roll 44 = .ok (.i2c, 1) := by decide +kernel
theorem dX9_roll_45 : decode cX9_roll 45 = .ok (.istore_n 1, 1) := by decide +kernel
theorem dX9_roll_46 : decode cX9_roll 46 = .ok (.aload_n 0, 1) := by decide +kernel
theorem dX9_roll_47 : decode cX9_roll 47 = .ok (.getfield 33, 3) := by decide +kernel
theorem dX9_roll_50 : decode cX9_roll 50 = .ok (.iload_n 1, 1) := by decide +kernel
theorem dX9_roll_51 : decode cX9_roll 51 = .ok (.invokevirtual 183, 3) := by decide +kernel
theorem dX9_roll_54 : decode cX9_roll 54 = .ok (.iload_n 1, 1) := by decide +kernel
theorem dX9_roll_55 : decode cX9_roll 55 = .ok (.ireturn, 1) := by decide +kernel
theorem dX9_word_0 : decode cX9_word 0 = .ok (.iload_n 1, 1) := by decide +kernel
theorem dX9_word_1 : decode cX9_word 1 = .ok (.iconst (-1), 1) := by decide +kernel
theorem dX9_word_2 : decode cX9_word 2 = .ok (.if_icmp .ge 5, 3) := by decide +kernel
theorem dX9_word_5 : decode cX9_word 5 = .ok (.iconst (-1), 1) := by decide +kernel
theorem dX9_word_6 : decode cX9_word 6 = .ok (.ireturn, 1) := by decide +kernel
theorem dX9_word_7 : decode cX9_word 7 = .ok (.iload_n 1, 1) := by decide +kernel
theorem dX9_word_8 : decode cX9_word 8 = .ok (.iconst (-1), 1) := by decide +kernel
theorem dX9_word_9 : decode cX9_word 9 = .ok (.if_icmp .ne 11, 3) := by decide +kernel
theorem dX9_word_12 : decode cX9_word 12 = .ok (.aload_n 0, 1) := by decide +kernel
theorem dX9_word_13 : decode cX9_word 13 = .ok (.getfield 33, 3) := by decide +kernel
theorem dX9_word_16 : decode cX9_word 16 = .ok (.getfield 182, 3) := by decide +kernel
theorem dX9_word_19 : decode cX9_word 19 = .ok (.ireturn, 1) := by decide +kernel
theorem dX9_word_20 : decode cX9_word 20 = .ok (.iload_n 1, 1) := by decide +kernel
theorem dX9_word_21 : decode cX9_word 21 = .ok (.aload_n 0, 1) := by decide +kernel
theorem dX9_word_22 : decode cX9_word 22 = .ok (.getfield 33, 3) := by decide +kernel
theorem dX9_word_25 : decode cX9_word 25 = .ok (.getfield 182, 3) := by decide +kernel
theorem dX9_word_28 : decode cX9_word 28 = .ok (.if_icmp .ge 15, 3) := by decide +kernel
theorem dX9_word_31 : decode cX9_word 31 = .ok (.aload_n 0, 1) := by decide +kernel
theorem dX9_word_32 : decode cX9_word 32 = .ok (.getfield 33, 3) := by decide +kernel
theorem dX9_word_35 : decode cX9_word 35 = .ok (.getfield 190, 3) := by decide +kernel
theorem dX9_word_38 : decode cX9_word 38 = .ok (.iload_n 1, 1) := by decide +kernel
theorem dX9_word_39 : decode cX9_word 39 = .ok (.caload, 1) := by decide +kernel
theorem dX9_word_40 : decode cX9_word 40 = .ok (.goto 5, 3) := by decide +kernel
theorem dX9_word_43 : decode cX9_word 43 = .ok (.bipush (-4), 2) := by decide +kernel
theorem dX9_word_45 : decode cX9_word 45 = .ok (.ireturn, 1) := by decide +kernel
theorem dX9_pick_0 : decode cX9_pick 0 = .ok (.aload_n 0, 1) := by decide +kernel
theorem dX9_pick_1 : decode cX9_pick 1 = .ok (.getfield 19, 3) := by decide +kernel
theorem dX9_pick_4 : decode cX9_pick 4 = .ok (.iload_n 1, 1) := by decide +kernel
theorem dX9_pick_5 : decode cX9_pick 5 = .ok (.invokevirtual 118, 3) := by decide +kernel
theorem dX9_pick_8 : decode cX9_pick 8 = .ok (.ifCond .ne 5, 3) := by decide +kernel
theorem dX9_pick_11 : decode cX9_pick 11 = .ok (.iconst (-1), 1) := by decide +kernel
theorem dX9_pick_12 : decode cX9_pick 12 = .ok (.ireturn, 1) := by decide +kernel
theorem dX9_pick_13 : decode cX9_pick 13 = .ok (.aload_n 0, 1) := by decide +kernel
theorem dX9_pick_14 : decode cX9_pick 14 = .ok (.dup, 1) := by decide +kernel
theorem dX9_pick_15 : decode cX9_pick 15 = .ok (.getfield 76, 3) := by decide +kernel
theorem dX9_pick_18 : decode cX9_pick 18 = .ok (.iconst 1, 1) := by decide +kernel
theorem dX9_pick_19 : decode cX9_pick 19 = .ok (.iadd, 1) := by decide +kernel
theorem dX9_pick_20 : decode cX9_pick 20 = .ok (.putfield 76, 3) := by decide +kernel
theorem dX9_pick_23 : decode cX9_pick 23 = .ok (.aload_n 0, 1) := by decide +kernel
theorem dX9_pick_24 : decode cX9_pick 24 = .ok (.getfield 19, 3) := by decide +kernel
theorem dX9_pick_27 : decode cX9_pick 27 = .ok (.getfield 122, 3) := by decide +kernel
theorem dX9_pick_30 : decode cX9_pick 30 = .ok (.iload_n 1, 1) := by decide +kernel
theorem dX9_pick_31 : decode cX9_pick 31 = .ok (.aaload, 1) := by decide +kernel
theorem dX9_pick_32 : decode cX9_pick 32 = .ok (.aload_n 0, 1) := by decide +kernel
theorem dX9_pick_33 : decode cX9_pick 33 = .ok (.getfield 76, 3) := by decide +kernel
theorem dX9_pick_36 : decode cX9_pick 36 = .ok (.putfield 135, 3) := by decide +kernel
theorem dX9_pick_39 : decode cX9_pick 39 = .ok (.aload_n 0, 1) := by decide +kernel
theorem dX9_pick_40 : decode cX9_pick 40 = .ok (.getfield 76, 3) := by decide +kernel
theorem dX9_pick_43 : decode cX9_pick 43 = .ok (.ireturn, 1) := by decide +kernel
theorem dX9_forget_0 : decode cX9_forget 0 = .ok (.aload_n 0, 1) := by decide +kernel
theorem dX9_forget_1 : decode cX9_forget 1 = .ok (.getfield 19, 3) := by decide +kernel
theorem dX9_forget_4 : decode cX9_forget 4 = .ok (.iload_n 1, 1) := by decide +kernel
theorem dX9_forget_5 : decode cX9_forget 5 = .ok (.invokevirtual 118, 3) := by decide +kernel
theorem dX9_forget_8 : decode cX9_forget 8 = .ok (.ifCond .ne 5, 3) := by decide +kernel
theorem dX9_forget_11 : decode cX9_forget 11 = .ok (.iconst (-1), 1) := by decide +kernel
theorem dX9_forget_12 : decode cX9_forget 12 = .ok (.ireturn, 1) := by decide +kernel
theorem dX9_forget_13 : decode cX9_forget 13 = .ok (.aload_n 0, 1) := by decide +kernel
theorem dX9_forget_14 : decode cX9_forget 14 = .ok (.getfield 19, 3) := by decide +kernel
theorem dX9_forget_17 : decode cX9_forget 17 = .ok (.getfield 122, 3) := by decide +kernel
theorem dX9_forget_20 : decode cX9_forget 20 = .ok (.iload_n 1, 1) := by decide +kernel
theorem dX9_forget_21 : decode cX9_forget 21 = .ok (.aaload, 1) := by decide +kernel
theorem dX9_forget_22 : decode cX9_forget 22 = .ok (.getfield 135, 3) := by decide +kernel
theorem dX9_forget_25 : decode cX9_forget 25 = .ok (.istore_n 2, 1) := by decide +kernel
theorem dX9_forget_26 : decode cX9_forget 26 = .ok (.iload_n 2, 1) := by decide +kernel
theorem dX9_forget_27 : decode cX9_forget 27 = .ok (.ifCond .ne 6, 3) := by decide +kernel
theorem dX9_forget_30 : decode cX9_forget 30 = .ok (.bipush (-2), 2) := by decide +kernel
theorem dX9_forget_32 : decode cX9_forget 32 = .ok (.ireturn, 1) := by decide +kernel
theorem dX9_forget_33 : decode cX9_forget 33 = .ok (.aload_n 0, 1) := by decide +kernel
theorem dX9_forget_34 : decode cX9_forget 34 = .ok (.getfield 19, 3) := by decide +kernel
theorem dX9_forget_37 : decode cX9_forget 37 = .ok (.getfield 122, 3) := by decide +kernel
theorem dX9_forget_40 : decode cX9_forget 40 = .ok (.iload_n 1, 1) := by decide +kernel
theorem dX9_forget_41 : decode cX9_forget 41 = .ok (.aaload, 1) := by decide +kernel
theorem dX9_forget_42 : decode cX9_forget 42 = .ok (.iconst 0, 1) := by decide +kernel
theorem dX9_forget_43 : decode cX9_forget 43 = .ok (.putfield 135, 3) := by decide +kernel
theorem dX9_forget_46 : decode cX9_forget 46 = .ok (.iload_n 2, 1) := by decide +kernel
theorem dX9_forget_47 : decode cX9_forget 47 = .ok (.ireturn, 1) := by decide +kernel
theorem dX9_drop_0 : decode cX9_drop 0 = .ok (.aload_n 0, 1) := by decide +kernel
theorem dX9_drop_1 : decode cX9_drop 1 = .ok (.getfield 19, 3) := by decide +kernel
theorem dX9_drop_4 : decode cX9_drop 4 = .ok (.iload_n 1, 1) := by decide +kernel
theorem dX9_drop_5 : decode cX9_drop 5 = .ok (.invokevirtual 118, 3) := by decide +kernel
theorem dX9_drop_8 : decode cX9_drop 8 = .ok (.ifCond .ne 5, 3) := by decide +kernel
theorem dX9_drop_11 : decode cX9_drop 11 = .ok (.iconst (-1), 1) := by decide +kernel
theorem dX9_drop_12 : decode cX9_drop 12 = .ok (.ireturn, 1) := by decide +kernel
theorem dX9_drop_13 : decode cX9_drop 13 = .ok (.aload_n 0, 1) := by decide +kernel
theorem dX9_drop_14 : decode cX9_drop 14 = .ok (.getfield 19, 3) := by decide +kernel
theorem dX9_drop_17 : decode cX9_drop 17 = .ok (.getfield 117, 3) := by decide +kernel
theorem dX9_drop_20 : decode cX9_drop 20 = .ok (.iconst 1, 1) := by decide +kernel
theorem dX9_drop_21 : decode cX9_drop 21 = .ok (.if_icmp .ne 6, 3) := by decide +kernel
theorem dX9_drop_24 : decode cX9_drop 24 = .ok (.bipush (-2), 2) := by decide +kernel
theorem dX9_drop_26 : decode cX9_drop 26 = .ok (.ireturn, 1) := by decide +kernel
theorem dX9_drop_27 : decode cX9_drop 27 = .ok (.aload_n 0, 1) := by decide +kernel
theorem dX9_drop_28 : decode cX9_drop 28 = .ok (.getfield 19, 3) := by decide +kernel
theorem dX9_drop_31 : decode cX9_drop 31 = .ok (.iload_n 1, 1) := by decide +kernel
theorem dX9_drop_32 : decode cX9_drop 32 = .ok (.invokevirtual 193, 3) := by decide +kernel
theorem dX9_drop_35 : decode cX9_drop 35 = .ok (.aload_n 0, 1) := by decide +kernel
theorem dX9_drop_36 : decode cX9_drop 36 = .ok (.getfield 19, 3) := by decide +kernel
theorem dX9_drop_39 : decode cX9_drop 39 = .ok (.getfield 117, 3) := by decide +kernel
theorem dX9_drop_42 : decode cX9_drop 42 = .ok (.ireturn, 1) := by decide +kernel
theorem dX9_rename_0 : decode cX9_rename 0 = .ok (.aload_n 0, 1) := by decide +kernel
theorem dX9_rename_1 : decode cX9_rename 1 = .ok (.getfield 19, 3) := by decide +kernel
theorem dX9_rename_4 : decode cX9_rename 4 = .ok (.iload_n 1, 1) := by decide +kernel
theorem dX9_rename_5 : decode cX9_rename 5 = .ok (.invokevirtual 118, 3) := by decide +kernel
theorem dX9_rename_8 : decode cX9_rename 8 = .ok (.ifCond .eq 12, 3) := by decide +kernel
theorem dX9_rename_11 : decode cX9_rename 11 = .ok (.iload_n 2, 1) := by decide +kernel
theorem dX9_rename_12 : decode cX9_rename 12 = .ok (.ifCond .lt 8, 3) := by decide +kernel
theorem dX9_rename_15 : decode cX9_rename 15 = .ok (.iload_n 2, 1) := by decide +kernel
theorem dX9_rename_16 : decode cX9_rename 16 = .ok (.iconst 4, 1) := by decide +kernel
theorem dX9_rename_17 : decode cX9_rename 17 = .ok (.if_icmp .lt 5, 3) := by decide +kernel
theorem dX9_rename_20 : decode cX9_rename 20 = .ok (.iconst (-1), 1) := by decide +kernel
theorem dX9_rename_21 : decode cX9_rename 21 = .ok (.ireturn, 1) := by decide +kernel
theorem dX9_rename_22 : decode cX9_rename 22 = .ok (.aload_n 0, 1) := by decide +kernel
theorem dX9_rename_23 : decode cX9_rename 23 = .ok (.getfield 19, 3) := by decide +kernel
theorem dX9_rename_26 : decode cX9_rename 26 = .ok (.getfield 122, 3) := by decide +kernel
theorem dX9_rename_29 : decode cX9_rename 29 = .ok (.iload_n 1, 1) := by decide +kernel
theorem dX9_rename_30 : decode cX9_rename 30 = .ok (.aaload, 1) := by decide +kernel
theorem dX9_rename_31 : decode cX9_rename 31 = .ok (.getfield 126, 3) := by decide +kernel
theorem dX9_rename_34 : decode cX9_rename 34 = .ok (.istore_n 3, 1) := by decide +kernel
theorem dX9_rename_35 : decode cX9_rename 35 = .ok (.iload_n 3, 1) := by decide +kernel
theorem dX9_rename_36 : decode cX9_rename 36 = .ok (.iload_n 2, 1) := by decide +kernel
theorem dX9_rename_37 : decode cX9_rename 37 = .ok (.if_icmp .ne 6, 3) := by decide +kernel
theorem dX9_rename_40 : decode cX9_rename 40 = .ok (.bipush (-2), 2) := by decide +kernel
theorem dX9_rename_42 : decode cX9_rename 42 = .ok (.ireturn, 1) := by decide +kernel
theorem dX9_rename_43 : decode cX9_rename 43 = .ok (.aload_n 0, 1) := by decide +kernel
theorem dX9_rename_44 : decode cX9_rename 44 = .ok (.getfield 19, 3) := by decide +kernel
theorem dX9_rename_47 : decode cX9_rename 47 = .ok (.getfield 122, 3) := by decide +kernel
theorem dX9_rename_50 : decode cX9_rename 50 = .ok (.iload_n 1, 1) := by decide +kernel
theorem dX9_rename_51 : decode cX9_rename 51 = .ok (.aaload, 1) := by decide +kernel
theorem dX9_rename_52 : decode cX9_rename 52 = .ok (.iload_n 2, 1) := by decide +kernel
theorem dX9_rename_53 : decode cX9_rename 53 = .ok (.putfield 126, 3) := by decide +kernel
theorem dX9_rename_56 : decode cX9_rename 56 = .ok (.aload_n 0, 1) := by decide +kernel
theorem dX9_rename_57 : decode cX9_rename 57 = .ok (.dup, 1) := by decide +kernel
theorem dX9_rename_58 : decode cX9_rename 58 = .ok (.getfield 79, 3) := by decide +kernel
theorem dX9_rename_61 : decode cX9_rename 61 = .ok (.iconst 1, 1) := by decide +kernel
theorem dX9_rename_62 : decode cX9_rename 62 = .ok (.iadd, 1) := by decide +kernel
theorem dX9_rename_63 : decode cX9_rename 63 = .ok (.putfield 79, 3) := by decide +kernel
theorem dX9_rename_66 : decode cX9_rename 66 = .ok (.iload_n 3, 1) := by decide +kernel
theorem dX9_rename_67 : decode cX9_rename 67 = .ok (.ireturn, 1) := by decide +kernel
theorem dX9_worth_0 : decode cX9_worth 0 = .ok (.iload_n 1, 1) := by decide +kernel
theorem dX9_worth_1 : decode cX9_worth 1 = .ok (.invokestatic 196, 3) := by decide +kernel
theorem dX9_worth_4 : decode cX9_worth 4 = .ok (.ifCond .eq 17, 3) := by decide +kernel
theorem dX9_worth_7 : decode cX9_worth 7 = .ok (.iload_n 2, 1) := by decide +kernel
theorem dX9_worth_8 : decode cX9_worth 8 = .ok (.invokestatic 196, 3) := by decide +kernel
theorem dX9_worth_11 : decode cX9_worth 11 = .ok (.ifCond .eq 10, 3) := by decide +kernel
theorem dX9_worth_14 : decode cX9_worth 14 = .ok (.iload_n 3, 1) := by decide +kernel
theorem dX9_worth_15 : decode cX9_worth 15 = .ok (.invokestatic 196, 3) := by decide +kernel
theorem dX9_worth_18 : decode cX9_worth 18 = .ok (.ifCond .ne 5, 3) := by decide +kernel
theorem dX9_worth_21 : decode cX9_worth 21 = .ok (.iconst (-1), 1) := by decide +kernel
theorem dX9_worth_22 : decode cX9_worth 22 = .ok (.ireturn, 1) := by decide +kernel
theorem dX9_worth_23 : decode cX9_worth 23 = .ok (.aload_n 0, 1) := by decide +kernel
theorem dX9_worth_24 : decode cX9_worth 24 = .ok (.getfield 26, 3) := by decide +kernel
theorem dX9_worth_27 : decode cX9_worth 27 = .ok (.iload_n 1, 1) := by decide +kernel
theorem dX9_worth_28 : decode cX9_worth 28 = .ok (.iload_n 2, 1) := by decide +kernel
theorem dX9_worth_29 : decode cX9_worth 29 = .ok (.iload_n 3, 1) := by decide +kernel
theorem dX9_worth_30 : decode cX9_worth 30 = .ok (.invokevirtual 199, 3) := by decide +kernel
theorem dX9_worth_33 : decode cX9_worth 33 = .ok (.ifCond .eq 6, 3) := by decide +kernel
theorem dX9_worth_36 : decode cX9_worth 36 = .ok (.bipush (-2), 2) := by decide +kernel
theorem dX9_worth_38 : decode cX9_worth 38 = .ok (.ireturn, 1) := by decide +kernel
theorem dX9_worth_39 : decode cX9_worth 39 = .ok (.aload_n 0, 1) := by decide +kernel
theorem dX9_worth_40 : decode cX9_worth 40 = .ok (.getfield 26, 3) := by decide +kernel
theorem dX9_worth_43 : decode cX9_worth 43 = .ok (.iload_n 1, 1) := by decide +kernel
theorem dX9_worth_44 : decode cX9_worth 44 = .ok (.iload_n 2, 1) := by decide +kernel
theorem dX9_worth_45 : decode cX9_worth 45 = .ok (.iload_n 3, 1) := by decide +kernel
theorem dX9_worth_46 : decode cX9_worth 46 = .ok (.invokevirtual 165, 3) := by decide +kernel
theorem dX9_worth_49 : decode cX9_worth 49 = .ok (.aload_n 0, 1) := by decide +kernel
theorem dX9_worth_50 : decode cX9_worth 50 = .ok (.dup, 1) := by decide +kernel
theorem dX9_worth_51 : decode cX9_worth 51 = .ok (.getfield 79, 3) := by decide +kernel
theorem dX9_worth_54 : decode cX9_worth 54 = .ok (.iconst 1, 1) := by decide +kernel
theorem dX9_worth_55 : decode cX9_worth 55 = .ok (.iadd, 1) := by decide +kernel
theorem dX9_worth_56 : decode cX9_worth 56 = .ok (.putfield 79, 3) := by decide +kernel
theorem dX9_worth_59 : decode cX9_worth 59 = .ok (.aload_n 0, 1) := by decide +kernel
theorem dX9_worth_60 : decode cX9_worth 60 = .ok (.getfield 79, 3) := by decide +kernel
theorem dX9_worth_63 : decode cX9_worth 63 = .ok (.ireturn, 1) := by decide +kernel
theorem dX9_score_0 : decode cX9_score 0 = .ok (.aload_n 0, 1) := by decide +kernel
theorem dX9_score_1 : decode cX9_score 1 = .ok (.getfield 19, 3) := by decide +kernel
theorem dX9_score_4 : decode cX9_score 4 = .ok (.iload_n 1, 1) := by decide +kernel
theorem dX9_score_5 : decode cX9_score 5 = .ok (.invokevirtual 118, 3) := by decide +kernel
theorem dX9_score_8 : decode cX9_score 8 = .ok (.ifCond .eq 19, 3) := by decide +kernel
theorem dX9_score_11 : decode cX9_score 11 = .ok (.aload_n 0, 1) := by decide +kernel
theorem dX9_score_12 : decode cX9_score 12 = .ok (.aload_n 0, 1) := by decide +kernel
theorem dX9_score_13 : decode cX9_score 13 = .ok (.getfield 19, 3) := by decide +kernel
theorem dX9_score_16 : decode cX9_score 16 = .ok (.getfield 122, 3) := by decide +kernel
theorem dX9_score_19 : decode cX9_score 19 = .ok (.iload_n 1, 1) := by decide +kernel
theorem dX9_score_20 : decode cX9_score 20 = .ok (.aaload, 1) := by decide +kernel
theorem dX9_score_21 : decode cX9_score 21 = .ok (.invokevirtual 203, 3) := by decide +kernel
theorem dX9_score_24 : decode cX9_score 24 = .ok (.goto 4, 3) := by decide +kernel
theorem dX9_score_27 : decode cX9_score 27 = .ok (.iconst (-1), 1) := by decide +kernel
theorem dX9_score_28 : decode cX9_score 28 = .ok (.ireturn, 1) := by decide +kernel
theorem dX9_list_0 : decode cX9_list 0 = .ok (.iload_n 1, 1) := by decide +kernel
theorem dX9_list_1 : decode cX9_list 1 = .ok (.iconst (-1), 1) := by decide +kernel
theorem dX9_list_2 : decode cX9_list 2 = .ok (.if_icmp .ge 5, 3) := by decide +kernel
theorem dX9_list_5 : decode cX9_list 5 = .ok (.iconst (-1), 1) := by decide +kernel
theorem dX9_list_6 : decode cX9_list 6 = .ok (.ireturn, 1) := by decide +kernel
theorem dX9_list_7 : decode cX9_list 7 = .ok (.aload_n 0, 1) := by decide +kernel
theorem dX9_list_8 : decode cX9_list 8 = .ok (.invokevirtual 207, 3) := by decide +kernel
theorem dX9_list_11 : decode cX9_list 11 = .ok (.aload_n 0, 1) := by decide +kernel
theorem dX9_list_12 : decode cX9_list 12 = .ok (.getfield 68, 3) := by decide +kernel
theorem dX9_list_15 : decode cX9_list 15 = .ok (.aload_n 0, 1) := by decide +kernel
theorem dX9_list_16 : decode cX9_list 16 = .ok (.getfield 19, 3) := by decide +kernel
theorem dX9_list_19 : decode cX9_list 19 = .ok (.invokevirtual 210, 3) := by decide +kernel
theorem dX9_list_22 : decode cX9_list 22 = .ok (.iload_n 1, 1) := by decide +kernel
theorem dX9_list_23 : decode cX9_list 23 = .ok (.iconst (-1), 1) := by decide +kernel
theorem dX9_list_24 : decode cX9_list 24 = .ok (.if_icmp .ne 25, 3) := by decide +kernel
theorem dX9_list_27 : decode cX9_list 27 = .ok (.aload_n 0, 1) := by decide +kernel
theorem dX9_list_28 : decode cX9_list 28 = .ok (.getfield 61, 3) := by decide +kernel
theorem dX9_list_31 : decode cX9_list 31 = .ok (.aload_n 0, 1) := by decide +kernel
theorem dX9_list_32 : decode cX9_list 32 = .ok (.getfield 33, 3) := by decide +kernel
theorem dX9_list_35 : decode cX9_list 35 = .ok (.invokevirtual 214, 3) := by decide +kernel
theorem dX9_list_38 : decode cX9_list 38 = .ok (.invokevirtual 218, 3) := by decide +kernel
theorem dX9_list_41 : decode cX9_list 41 = .ok (.aload_n 0, 1) := by decide +kernel
theorem dX9_list_42 : decode cX9_list 42 = .ok (.getfield 68, 3) := by decide +kernel
theorem dX9_list_45 : decode cX9_list 45 = .ok (.getfield 221, 3) := by decide +kernel
theorem dX9_list_48 : decode cX9_list 48 = .ok (.ireturn, 1) := by decide +kernel
theorem dX9_list_49 : decode cX9_list 49 = .ok (.iload_n 1, 1) := by decide +kernel
theorem dX9_list_50 : decode cX9_list 50 = .ok (.aload_n 0, 1) := by decide +kernel
theorem dX9_list_51 : decode cX9_list 51 = .ok (.getfield 68, 3) := by decide +kernel
theorem dX9_list_54 : decode cX9_list 54 = .ok (.getfield 221, 3) := by decide +kernel
theorem dX9_list_57 : decode cX9_list 57 = .ok (.if_icmp .ge 15, 3) := by decide +kernel
theorem dX9_list_60 : decode cX9_list 60 = .ok (.aload_n 0, 1) := by decide +kernel
theorem dX9_list_61 : decode cX9_list 61 = .ok (.getfield 68, 3) := by decide +kernel
theorem dX9_list_64 : decode cX9_list 64 = .ok (.getfield 222, 3) := by decide +kernel
theorem dX9_list_67 : decode cX9_list 67 = .ok (.iload_n 1, 1) := by decide +kernel
theorem dX9_list_68 : decode cX9_list 68 = .ok (.iaload, 1) := by decide +kernel
theorem dX9_list_69 : decode cX9_list 69 = .ok (.goto 5, 3) := by decide +kernel
theorem dX9_list_72 : decode cX9_list 72 = .ok (.bipush (-4), 2) := by decide +kernel
theorem dX9_list_74 : decode cX9_list 74 = .ok (.ireturn, 1) := by decide +kernel
theorem dX9_best_0 : decode cX9_best 0 = .ok (.aload_n 0, 1) := by decide +kernel
theorem dX9_best_1 : decode cX9_best 1 = .ok (.getfield 19, 3) := by decide +kernel
theorem dX9_best_4 : decode cX9_best 4 = .ok (.iload_n 1, 1) := by decide +kernel
theorem dX9_best_5 : decode cX9_best 5 = .ok (.invokevirtual 118, 3) := by decide +kernel
theorem dX9_best_8 : decode cX9_best 8 = .ok (.ifCond .eq 7, 3) := by decide +kernel
theorem dX9_best_11 : decode cX9_best 11 = .ok (.iload_n 2, 1) := by decide +kernel
theorem dX9_best_12 : decode cX9_best 12 = .ok (.ifCond .ge 5, 3) := by decide +kernel
theorem dX9_best_15 : decode cX9_best 15 = .ok (.iconst (-1), 1) := by decide +kernel
theorem dX9_best_16 : decode cX9_best 16 = .ok (.ireturn, 1) := by decide +kernel
theorem dX9_best_17 : decode cX9_best 17 = .ok (.iload_n 2, 1) := by decide +kernel
theorem dX9_best_18 : decode cX9_best 18 = .ok (.aload_n 0, 1) := by decide +kernel
theorem dX9_best_19 : decode cX9_best 19 = .ok (.getfield 33, 3) := by decide +kernel
theorem dX9_best_22 : decode cX9_best 22 = .ok (.getfield 182, 3) := by decide +kernel
theorem dX9_best_25 : decode cX9_best 25 = .ok (.if_icmp .ge 32, 3) := by decide +kernel
theorem dX9_best_28 : decode cX9_best 28 = .ok (.aload_n 0, 1) := by decide +kernel
theorem dX9_best_29 : decode cX9_best 29 = .ok (.getfield 47, 3) := by decide +kernel
theorem dX9_best_32 : decode cX9_best 32 = .ok (.aload_n 0, 1) := by decide +kernel
theorem dX9_best_33 : decode cX9_best 33 = .ok (.getfield 19, 3) := by decide +kernel
theorem dX9_best_36 : decode cX9_best 36 = .ok (.getfield 122, 3) := by decide +kernel
theorem dX9_best_39 : decode cX9_best 39 = .ok (.iload_n 1, 1) := by decide +kernel
theorem dX9_best_40 : decode cX9_best 40 = .ok (.aaload, 1) := by decide +kernel
theorem dX9_best_41 : decode cX9_best 41 = .ok (.aload_n 0, 1) := by decide +kernel
theorem dX9_best_42 : decode cX9_best 42 = .ok (.getfield 33, 3) := by decide +kernel
theorem dX9_best_45 : decode cX9_best 45 = .ok (.aload_n 0, 1) := by decide +kernel
theorem dX9_best_46 : decode cX9_best 46 = .ok (.getfield 26, 3) := by decide +kernel
theorem dX9_best_49 : decode cX9_best 49 = .ok (.invokevirtual 226, 3) := by decide +kernel
theorem dX9_best_52 : decode cX9_best 52 = .ok (.bipush (-4), 2) := by decide +kernel
theorem dX9_best_54 : decode cX9_best 54 = .ok (.if_icmp .ne 6, 3) := by decide +kernel
theorem dX9_best_57 : decode cX9_best 57 = .ok (.bipush (-4), 2) := by decide +kernel
theorem dX9_best_59 : decode cX9_best 59 = .ok (.ireturn, 1) := by decide +kernel
theorem dX9_best_60 : decode cX9_best 60 = .ok (.aload_n 0, 1) := by decide +kernel
theorem dX9_best_61 : decode cX9_best 61 = .ok (.getfield 47, 3) := by decide +kernel
theorem dX9_best_64 : decode cX9_best 64 = .ok (.iload_n 2, 1) := by decide +kernel
theorem dX9_best_65 : decode cX9_best 65 = .ok (.invokevirtual 230, 3) := by decide +kernel
theorem dX9_best_68 : decode cX9_best 68 = .ok (.ireturn, 1) := by decide +kernel
theorem dX9_ways_0 : decode cX9_ways 0 = .ok (.aload_n 0, 1) := by decide +kernel
theorem dX9_ways_1 : decode cX9_ways 1 = .ok (.getfield 19, 3) := by decide +kernel
theorem dX9_ways_4 : decode cX9_ways 4 = .ok (.iload_n 1, 1) := by decide +kernel
theorem dX9_ways_5 : decode cX9_ways 5 = .ok (.invokevirtual 118, 3) := by decide +kernel
theorem dX9_ways_8 : decode cX9_ways 8 = .ok (.ifCond .eq 26, 3) := by decide +kernel
theorem dX9_ways_11 : decode cX9_ways 11 = .ok (.aload_n 0, 1) := by decide +kernel
theorem dX9_ways_12 : decode cX9_ways 12 = .ok (.getfield 47, 3) := by decide +kernel
theorem dX9_ways_15 : decode cX9_ways 15 = .ok (.aload_n 0, 1) := by decide +kernel
theorem dX9_ways_16 : decode cX9_ways 16 = .ok (.getfield 19, 3) := by decide +kernel
theorem dX9_ways_19 : decode cX9_ways 19 = .ok (.getfield 122, 3) := by decide +kernel
theorem dX9_ways_22 : decode cX9_ways 22 = .ok (.iload_n 1, 1) := by decide +kernel
theorem dX9_ways_23 : decode cX9_ways 23 = .ok (.aaload, 1) := by decide +kernel
theorem dX9_ways_24 : decode cX9_ways 24 = .ok (.aload_n 0, 1) := by decide +kernel
theorem dX9_ways_25 : decode cX9_ways 25 = .ok (.getfield 33, 3) := by decide +kernel
theorem dX9_ways_28 : decode cX9_ways 28 = .ok (.invokevirtual 233, 3) := by decide +kernel
theorem dX9_ways_31 : decode cX9_ways 31 = .ok (.goto 4, 3) := by decide +kernel
theorem dX9_ways_34 : decode cX9_ways 34 = .ok (.iconst (-1), 1) := by decide +kernel
theorem dX9_ways_35 : decode cX9_ways 35 = .ok (.ireturn, 1) := by decide +kernel
theorem dX9_passes_0 : decode cX9_passes 0 = .ok (.iload_n 1, 1) := by decide +kernel
theorem dX9_passes_1 : decode cX9_passes 1 = .ok (.ifCond .eq 10, 3) := by decide +kernel
theorem dX9_passes_4 : decode cX9_passes 4 = .ok (.iload_n 1, 1) := by decide +kernel
theorem dX9_passes_5 : decode cX9_passes 5 = .ok (.iconst 1, 1) := by decide +kernel
theorem dX9_passes_6 : decode cX9_passes 6 = .ok (.if_icmp .eq 5, 3) := by decide +kernel
theorem dX9_passes_9 : decode cX9_passes 9 = .ok (.iconst (-1), 1) := by decide +kernel
theorem dX9_passes_10 : decode cX9_passes 10 = .ok (.ireturn, 1) := by decide +kernel
theorem dX9_passes_11 : decode cX9_passes 11 = .ok (.iconst 0, 1) := by decide +kernel
theorem dX9_passes_12 : decode cX9_passes 12 = .ok (.istore_n 2, 1) := by decide +kernel
theorem dX9_passes_13 : decode cX9_passes 13 = .ok (.iconst 0, 1) := by decide +kernel
theorem dX9_passes_14 : decode cX9_passes 14 = .ok (.istore_n 3, 1) := by decide +kernel
theorem dX9_passes_15 : decode cX9_passes 15 = .ok (.iload_n 3, 1) := by decide +kernel
theorem dX9_passes_16 : decode cX9_passes 16 = .ok (.aload_n 0, 1) := by decide +kernel
theorem dX9_passes_17 : decode cX9_passes 17 = .ok (.getfield 19, 3) := by decide +kernel
theorem dX9_passes_20 : decode cX9_passes 20 = .ok (.getfield 117, 3) := by decide +kernel
theorem dX9_passes_23 : decode cX9_passes 23 = .ok (.if_icmp .ge 61, 3) := by decide +kernel
theorem dX9_passes_26 : decode cX9_passes 26 = .ok (.aload_n 0, 1) := by decide +kernel
theorem dX9_passes_27 : decode cX9_passes 27 = .ok (.getfield 19, 3) := by decide +kernel
theorem dX9_passes_30 : decode cX9_passes 30 = .ok (.getfield 122, 3) := by decide +kernel
theorem dX9_passes_33 : decode cX9_passes 33 = .ok (.iload_n 3, 1) := by decide +kernel
theorem dX9_passes_34 : decode cX9_passes 34 = .ok (.aaload, 1) := by decide +kernel
theorem dX9_passes_35 : decode cX9_passes 35 = .ok (.astore 4, 2) := by decide +kernel
theorem dX9_passes_37 : decode cX9_passes 37 = .ok (.iload_n 1, 1) := by decide +kernel
theorem dX9_passes_38 : decode cX9_passes 38 = .ok (.ifCond .ne 18, 3) := by decide +kernel
theorem dX9_passes_41 : decode cX9_passes 41 = .ok (.aload 4, 2) := by decide +kernel
theorem dX9_passes_43 : decode cX9_passes 43 = .ok (.aload_n 0, 1) := by decide +kernel
theorem dX9_passes_44 : decode cX9_passes 44 = .ok (.getfield 33, 3) := by decide +kernel
theorem dX9_passes_47 : decode cX9_passes 47 = .ok (.invokevirtual 237, 3) := by decide +kernel
theorem dX9_passes_50 : decode cX9_passes 50 = .ok (.ifCond .eq 28, 3) := by decide +kernel
theorem dX9_passes_53 : decode cX9_passes 53 = .ok (.goto 19, 3) := by decide +kernel
theorem dX9_passes_56 : decode cX9_passes 56 = .ok (.aload_n 0, 1) := by decide +kernel
theorem dX9_passes_57 : decode cX9_passes 57 = .ok (.getfield 47, 3) := by decide +kernel
theorem dX9_passes_60 : decode cX9_passes 60 = .ok (.aload 4, 2) := by decide +kernel
theorem dX9_passes_62 : decode cX9_passes 62 = .ok (.aload_n 0, 1) := by decide +kernel
theorem dX9_passes_63 : decode cX9_passes 63 = .ok (.getfield 33, 3) := by decide +kernel
theorem dX9_passes_66 : decode cX9_passes 66 = .ok (.invokevirtual 233, 3) := by decide +kernel
theorem dX9_passes_69 : decode cX9_passes 69 = .ok (.ifCond .le 9, 3) := by decide +kernel
theorem dX9_passes_72 : decode cX9_passes 72 = .ok (.iload_n 2, 1) := by decide +kernel
theorem dX9_passes_73 : decode cX9_passes 73 = .ok (.iconst 1, 1) := by decide +kernel
theorem dX9_passes_74 : decode cX9_passes 74 = .ok (.iload_n 3, 1) := by decide +kernel
theorem dX9_passes_75 : decode cX9_passes 75 = .ok (.ishl, 1) := by decide +kernel
theorem dX9_passes_76 : decode cX9_passes 76 = .ok (.ior, 1) := by decide +kernel
theorem dX9_passes_77 : decode cX9_passes 77 = .ok (.istore_n 2, 1) := by decide +kernel
theorem dX9_passes_78 : decode cX9_passes 78 = .ok (.iinc 3 1, 3) := by decide +kernel
theorem dX9_passes_81 : decode cX9_passes 81 = .ok (.goto (-66), 3) := by decide +kernel
theorem dX9_passes_84 : decode cX9_passes 84 = .ok (.iload_n 2, 1) := by decide +kernel
theorem dX9_passes_85 : decode cX9_passes 85 = .ok (.ireturn, 1) := by decide +kernel
theorem dX9_asked_0 : decode cX9_asked 0 = .ok (.iload_n 1, 1) := by decide +kernel
theorem dX9_asked_1 : decode cX9_asked 1 = .ok (.ifCond .lt 9, 3) := by decide +kernel
theorem dX9_asked_4 : decode cX9_asked 4 = .ok (.iload_n 1, 1) := by decide +kernel
theorem dX9_asked_5 : decode cX9_asked 5 = .ok (.bipush 6, 2) := by decide +kernel
theorem dX9_asked_7 : decode cX9_asked 7 = .ok (.if_icmp .lt 5, 3) := by decide +kernel
theorem dX9_asked_10 : decode cX9_asked 10 = .ok (.iconst (-1), 1) := by decide +kernel
theorem dX9_asked_11 : decode cX9_asked 11 = .ok (.ireturn, 1) := by decide +kernel
theorem dX9_asked_12 : decode cX9_asked 12 = .ok (.iload_n 1, 1) := by decide +kernel
theorem dX9_asked_13 : decode cX9_asked 13 = .ok (.aload_n 0, 1) := by decide +kernel
theorem dX9_asked_14 : decode cX9_asked 14 = .ok (.getfield 61, 3) := by decide +kernel
theorem dX9_asked_17 : decode cX9_asked 17 = .ok (.getfield 241, 3) := by decide +kernel
theorem dX9_asked_20 : decode cX9_asked 20 = .ok (.if_icmp .ge 20, 3) := by decide +kernel
theorem dX9_asked_23 : decode cX9_asked 23 = .ok (.aload_n 0, 1) := by decide +kernel
theorem dX9_asked_24 : decode cX9_asked 24 = .ok (.getfield 61, 3) := by decide +kernel
theorem dX9_asked_27 : decode cX9_asked 27 = .ok (.getfield 242, 3) := by decide +kernel
theorem dX9_asked_30 : decode cX9_asked 30 = .ok (.iload_n 1, 1) := by decide +kernel
theorem dX9_asked_31 : decode cX9_asked 31 = .ok (.laload, 1) := by decide +kernel
theorem dX9_asked_32 : decode cX9_asked 32 = .ok (.ldc2_w 246, 3) := by decide +kernel
theorem dX9_asked_35 : decode cX9_asked 35 = .ok (.lrem, 1) := by decide +kernel
theorem dX9_asked_36 : decode cX9_asked 36 = .ok (.l2i, 1) := by decide +kernel
theorem dX9_asked_37 : decode cX9_asked 37 = .ok (.goto 5, 3) := by decide +kernel
theorem dX9_asked_40 : decode cX9_asked 40 = .ok (.bipush (-4), 2) := by decide +kernel
theorem dX9_asked_42 : decode cX9_asked 42 = .ok (.ireturn, 1) := by decide +kernel
theorem dX9_brief_0 : decode cX9_brief 0 = .ok (.aload_n 0, 1) := by decide +kernel
theorem dX9_brief_1 : decode cX9_brief 1 = .ok (.getfield 19, 3) := by decide +kernel
theorem dX9_brief_4 : decode cX9_brief 4 = .ok (.iload_n 1, 1) := by decide +kernel
theorem dX9_brief_5 : decode cX9_brief 5 = .ok (.invokevirtual 118, 3) := by decide +kernel
theorem dX9_brief_8 : decode cX9_brief 8 = .ok (.ifCond .ne 5, 3) := by decide +kernel
theorem dX9_brief_11 : decode cX9_brief 11 = .ok (.iconst (-1), 1) := by decide +kernel
theorem dX9_brief_12 : decode cX9_brief 12 = .ok (.ireturn, 1) := by decide +kernel
theorem dX9_brief_13 : decode cX9_brief 13 = .ok (.iconst 1, 1) := by decide +kernel
theorem dX9_brief_14 : decode cX9_brief 14 = .ok (.istore_n 2, 1) := by decide +kernel
theorem dX9_brief_15 : decode cX9_brief 15 = .ok (.iload_n 2, 1) := by decide +kernel
theorem dX9_brief_16 : decode cX9_brief 16 = .ok (.bipush 26, 2) := by decide +kernel
theorem dX9_brief_18 : decode cX9_brief 18 = .ok (.if_icmp .gt 24, 3) := by decide +kernel
theorem dX9_brief_21 : decode cX9_brief 21 = .ok (.aload_n 0, 1) := by decide +kernel
theorem dX9_brief_22 : decode cX9_brief 22 = .ok (.iload_n 1, 1) := by decide +kernel
theorem dX9_brief_23 : decode cX9_brief 23 = .ok (.iload_n 2, 1) := by decide +kernel
theorem dX9_brief_24 : decode cX9_brief 24 = .ok (.iconst 0, 1) := by decide +kernel
theorem dX9_brief_25 : decode cX9_brief 25 = .ok (.invokevirtual 248, 3) := by decide +kernel
theorem dX9_brief_28 : decode cX9_brief 28 = .ok (.ifCond .eq 8, 3) := by decide +kernel
theorem dX9_brief_31 : decode cX9_brief 31 = .ok (.bipush 27, 2) := by decide +kernel
theorem dX9_brief_33 : decode cX9_brief 33 = .ok (.iload_n 2, 1) := by decide +kernel
theorem dX9_brief_34 : decode cX9_brief 34 = .ok (.imul, 1) := by decide +kernel
theorem dX9_brief_35 : decode cX9_brief 35 = .ok (.ireturn, 1) := by decide +kernel
theorem dX9_brief_36 : decode cX9_brief 36 = .ok (.iinc 2 1, 3) := by decide +kernel
theorem dX9_brief_39 : decode cX9_brief 39 = .ok (.goto (-24), 3) := by decide +kernel
theorem dX9_brief_42 : decode cX9_brief 42 = .ok (.iconst 1, 1) := by decide +kernel
theorem dX9_brief_43 : decode cX9_brief 43 = .ok (.istore_n 2, 1) := by decide +kernel
theorem dX9_brief_44 : decode cX9_brief 44 = .ok (.iload_n 2, 1) := by decide +kernel
theorem dX9_brief_45 : decode cX9_brief 45 = .ok (.bipush 26, 2) := by decide +kernel
theorem dX9_brief_47 : decode cX9_brief 47 = .ok (.if_icmp .gt 40, 3) := by decide +kernel
theorem dX9_brief_50 : decode cX9_brief 50 = .ok (.iconst 1, 1) := by decide +kernel
theorem dX9_brief_51 : decode cX9_brief 51 = .ok (.istore_n 3, 1) := by decide +kernel
theorem dX9_brief_52 : decode cX9_brief 52 = .ok (.iload_n 3, 1) := by decide +kernel
theorem dX9_brief_53 : decode cX9_brief 53 = .ok (.bipush 26, 2) := by decide +kernel
theorem dX9_brief_55 : decode cX9_brief 55 = .ok (.if_icmp .gt 26, 3) := by decide +kernel
theorem dX9_brief_58 : decode cX9_brief 58 = .ok (.aload_n 0, 1) := by decide +kernel
theorem dX9_brief_59 : decode cX9_brief 59 = .ok (.iload_n 1, 1) := by decide +kernel
theorem dX9_brief_60 : decode cX9_brief 60 = .ok (.iload_n 2, 1) := by decide +kernel
theorem dX9_brief_61 : decode cX9_brief 61 = .ok (.iload_n 3, 1) := by decide +kernel
theorem dX9_brief_62 : decode cX9_brief 62 = .ok (.invokevirtual 248, 3) := by decide +kernel
theorem dX9_brief_65 : decode cX9_brief 65 = .ok (.ifCond .eq 10, 3) := by decide +kernel
theorem dX9_brief_68 : decode cX9_brief 68 = .ok (.bipush 27, 2) := by decide +kernel
theorem dX9_brief_70 : decode cX9_brief 70 = .ok (.iload_n 2, 1) := by decide +kernel
theorem dX9_brief_71 : decode cX9_brief 71 = .ok (.imul, 1) := by decide +kernel
theorem dX9_brief_72 : decode cX9_brief 72 = .ok (.iload_n 3, 1) := by decide +kernel
theorem dX9_brief_73 : decode cX9_brief 73 = .ok (.iadd, 1) := by decide +kernel
theorem dX9_brief_74 : decode cX9_brief 74 = .ok (.ireturn, 1) := by decide +kernel
theorem dX9_brief_75 : decode cX9_brief 75 = .ok (.iinc 3 1, 3) := by decide +kernel
theorem dX9_brief_78 : decode cX9_brief 78 = .ok (.goto (-26), 3) := by decide +kernel
theorem dX9_brief_81 : decode cX9_brief 81 = .ok (.iinc 2 1, 3) := by decide +kernel
theorem dX9_brief_84 : decode cX9_brief 84 = .ok (.goto (-40), 3) := by decide +kernel
theorem dX9_brief_87 : decode cX9_brief 87 = .ok (.bipush (-4), 2) := by decide +kernel
theorem dX9_brief_89 : decode cX9_brief 89 = .ok (.ireturn, 1) := by decide +kernel
theorem dX9_pair_0 : decode cX9_pair 0 = .ok (.aload_n 0, 1) := by decide +kernel
theorem dX9_pair_1 : decode cX9_pair 1 = .ok (.getfield 19, 3) := by decide +kernel
theorem dX9_pair_4 : decode cX9_pair 4 = .ok (.iload_n 1, 1) := by decide +kernel
theorem dX9_pair_5 : decode cX9_pair 5 = .ok (.invokevirtual 118, 3) := by decide +kernel
theorem dX9_pair_8 : decode cX9_pair 8 = .ok (.ifCond .eq 14, 3) := by decide +kernel
theorem dX9_pair_11 : decode cX9_pair 11 = .ok (.aload_n 0, 1) := by decide +kernel
theorem dX9_pair_12 : decode cX9_pair 12 = .ok (.getfield 19, 3) := by decide +kernel
theorem dX9_pair_15 : decode cX9_pair 15 = .ok (.iload_n 2, 1) := by decide +kernel
theorem dX9_pair_16 : decode cX9_pair 16 = .ok (.invokevirtual 118, 3) := by decide +kernel
theorem dX9_pair_19 : decode cX9_pair 19 = .ok (.ifCond .ne 5, 3) := by decide +kernel
theorem dX9_pair_22 : decode cX9_pair 22 = .ok (.iconst (-1), 1) := by decide +kernel
theorem dX9_pair_23 : decode cX9_pair 23 = .ok (.ireturn, 1) := by decide +kernel
theorem dX9_pair_24 : decode cX9_pair 24 = .ok (.aload_n 0, 1) := by decide +kernel
theorem dX9_pair_25 : decode cX9_pair 25 = .ok (.getfield 19, 3) := by decide +kernel
theorem dX9_pair_28 : decode cX9_pair 28 = .ok (.getfield 122, 3) := by decide +kernel
theorem dX9_pair_31 : decode cX9_pair 31 = .ok (.iload_n 1, 1) := by decide +kernel
theorem dX9_pair_32 : decode cX9_pair 32 = .ok (.aaload, 1) := by decide +kernel
theorem dX9_pair_33 : decode cX9_pair 33 = .ok (.getfield 251, 3) := by decide +kernel
theorem dX9_pair_36 : decode cX9_pair 36 = .ok (.aload_n 0, 1) := by decide +kernel
theorem dX9_pair_37 : decode cX9_pair 37 = .ok (.getfield 19, 3) := by decide +kernel
theorem dX9_pair_40 : decode cX9_pair 40 = .ok (.getfield 122, 3) := by decide +kernel
theorem dX9_pair_43 : decode cX9_pair 43 = .ok (.iload_n 2, 1) := by decide +kernel
theorem dX9_pair_44 : decode cX9_pair 44 = .ok (.aaload, 1) := by decide +kernel
theorem dX9_pair_45 : decode cX9_pair 45 = .ok (.getfield 251, 3) := by decide +kernel
theorem dX9_pair_48 : decode cX9_pair 48 = .ok (.iand, 1) := by decide +kernel
theorem dX9_pair_49 : decode cX9_pair 49 = .ok (.invokestatic 254, 3) := by decide +kernel
theorem dX9_pair_52 : decode cX9_pair 52 = .ok (.ireturn, 1) := by decide +kernel
theorem dX9_seekScore_0 : decode cX9_seekScore 0 = .ok (.aload_n 0, 1) := by decide +kernel
theorem dX9_seekScore_1 : decode cX9_seekScore 1 = .ok (.getfield 33, 3) := by decide +kernel
theorem dX9_seekScore_4 : decode cX9_seekScore 4 = .ok (.invokevirtual 214, 3) := by decide +kernel
theorem dX9_seekScore_7 : decode cX9_seekScore 7 = .ok (.lstore_n 2, 1) := by decide +kernel
theorem dX9_seekScore_8 : decode cX9_seekScore 8 = .ok (.aload_n 1, 1) := by decide +kernel
theorem dX9_seekScore_9 : decode cX9_seekScore 9 = .ok (.getfield 132, 3) := by decide +kernel
theorem dX9_seekScore_12 : decode cX9_seekScore 12 = .ok (.lload_n 2, 1) := by decide +kernel
theorem dX9_seekScore_13 : decode cX9_seekScore 13 = .ok (.aload_n 0, 1) := by decide +kernel
theorem dX9_seekScore_14 : decode cX9_seekScore 14 = .ok (.getfield 79, 3) := by decide +kernel
theorem dX9_seekScore_17 : decode cX9_seekScore 17 = .ok (.invokestatic 259, 3) := by decide +kernel
theorem dX9_seekScore_20 : decode cX9_seekScore 20 = .ok (.istore 4, 2) := by decide +kernel
theorem dX9_seekScore_22 : decode cX9_seekScore 22 = .ok (.aload_n 0, 1) := by decide +kernel
theorem dX9_seekScore_23 : decode cX9_seekScore 23 = .ok (.getfield 54, 3) := by decide +kernel
theorem dX9_seekScore_26 : decode cX9_seekScore 26 = .ok (.iload 4, 2) := by decide +kernel
theorem dX9_seekScore_28 : decode cX9_seekScore 28 = .ok (.aload_n 1, 1) := by decide +kernel
theorem dX9_seekScore_29 : decode cX9_seekScore 29 = .ok (.getfield 132, 3) := by decide +kernel
theorem dX9_seekScore_32 : decode cX9_seekScore 32 = .ok (.lload_n 2, 1) := by decide +kernel
theorem dX9_seekScore_33 : decode cX9_seekScore 33 = .ok (.aload_n 0, 1) := by decide +kernel
theorem dX9_seekScore_34 : decode cX9_seekScore 34 = .ok (.getfield 79, 3) := by decide +kernel
theorem dX9_seekScore_37 : decode cX9_seekScore 37 = .ok (.invokevirtual 263, 3) := by decide +kernel
theorem dX9_seekScore_40 : decode cX9_seekScore 40 = .ok (.ifCond .eq 27, 3) := by decide +kernel
theorem dX9_seekScore_43 : decode cX9_seekScore 43 = .ok (.aload_n 0, 1) := by decide +kernel
theorem dX9_seekScore_44 : decode cX9_seekScore 44 = .ok (.getfield 54, 3) := by decide +kernel
theorem dX9_seekScore_47 : decode cX9_seekScore 47 = .ok (.dup, 1) := by decide +kernel
theorem dX9_seekScore_48 : decode cX9_seekScore 48 = .ok (.getfield 267, 3) := by decide +kernel
theorem dX9_seekScore_51 : decode cX9_seekScore 51 = .ok (.iconst 1, 1) := by decide +kernel
theorem dX9_seekScore_52 : decode cX9_seekScore 52 = .ok (.iadd, 1) := by decide +kernel
theorem dX9_seekScore_53 : decode cX9_seekScore 53 = .ok (.putfield 267, 3) := by decide +kernel
theorem dX9_seekScore_56 : decode cX9_seekScore 56 = .ok (.aload_n 0, 1) := by decide +kernel
theorem dX9_seekScore_57 : decode cX9_seekScore 57 = .ok (.getfield 54, 3) := by decide +kernel
theorem dX9_seekScore_60 : decode cX9_seekScore 60 = .ok (.getfield 270, 3) := by decide +kernel
theorem dX9_seekScore_63 : decode cX9_seekScore 63 = .ok (.iload 4, 2) := by decide +kernel
theorem dX9_seekScore_65 : decode cX9_seekScore 65 = .ok (.iaload, 1) := by decide +kernel
theorem dX9_seekScore_66 : decode cX9_seekScore 66 = .ok (.ireturn, 1) := by decide +kernel
theorem dX9_seekScore_67 : decode cX9_seekScore 67 = .ok (.aload_n 0, 1) := by decide +kernel
theorem dX9_seekScore_68 : decode cX9_seekScore 68 = .ok (.getfield 54, 3) := by decide +kernel
theorem dX9_seekScore_71 : decode cX9_seekScore 71 = .ok (.dup, 1) := by decide +kernel
theorem dX9_seekScore_72 : decode cX9_seekScore 72 = .ok (.getfield 273, 3) := by decide +kernel
theorem dX9_seekScore_75 : decode cX9_seekScore 75 = .ok (.iconst 1, 1) := by decide +kernel
theorem dX9_seekScore_76 : decode cX9_seekScore 76 = .ok (.iadd, 1) := by decide +kernel
theorem dX9_seekScore_77 : decode cX9_seekScore 77 = .ok (.putfield 273, 3) := by decide +kernel
theorem dX9_seekScore_80 : decode cX9_seekScore 80 = .ok (.aload_n 0, 1) := by decide +kernel
theorem dX9_seekScore_81 : decode cX9_seekScore 81 = .ok (.getfield 47, 3) := by decide +kernel
theorem dX9_seekScore_84 : decode cX9_seekScore 84 = .ok (.aload_n 1, 1) := by decide +kernel
theorem dX9_seekScore_85 : decode cX9_seekScore 85 = .ok (.aload_n 0, 1) := by decide +kernel
theorem dX9_seekScore_86 : decode cX9_seekScore 86 = .ok (.getfield 33, 3) := by decide +kernel
theorem dX9_seekScore_89 : decode cX9_seekScore 89 = .ok (.aload_n 0, 1) := by decide +kernel
theorem dX9_seekScore_90 : decode cX9_seekScore 90 = .ok (.getfield 26, 3) := by decide +kernel
theorem dX9_seekScore_93 : decode cX9_seekScore 93 = .ok (.invokevirtual 226, 3) := by decide +kernel
theorem dX9_seekScore_96 : decode cX9_seekScore 96 = .ok (.istore 5, 2) := by decide +kernel
theorem dX9_seekScore_98 : decode cX9_seekScore 98 = .ok (.aload_n 0, 1) := by decide +kernel
theorem dX9_seekScore_99 : decode cX9_seekScore 99 = .ok (.getfield 54, 3) := by decide +kernel
theorem dX9_seekScore_102 : decode cX9_seekScore 102 = .ok (.iload 4, 2) := by decide +kernel
theorem dX9_seekScore_104 : decode cX9_seekScore 104 = .ok (.aload_n 1, 1) := by decide +kernel
theorem dX9_seekScore_105 : decode cX9_seekScore 105 = .ok (.getfield 132, 3) := by decide +kernel
theorem dX9_seekScore_108 : decode cX9_seekScore 108 = .ok (.lload_n 2, 1) := by decide +kernel
theorem dX9_seekScore_109 : decode cX9_seekScore 109 = .ok (.aload_n 0, 1) := by decide +kernel
theorem dX9_seekScore_110 : decode cX9_seekScore 110 = .ok (.getfield 79, 3) := by decide +kernel
theorem dX9_seekScore_113 : decode cX9_seekScore 113 = .ok (.iload 5, 2) := by decide +kernel
theorem dX9_seekScore_115 : decode cX9_seekScore 115 = .ok (.invokevirtual 276, 3) := by decide +kernel
theorem dX9_seekScore_118 : decode cX9_seekScore 118 = .ok (.iload 5, 2) := by decide +kernel
theorem dX9_seekScore_120 : decode cX9_seekScore 120 = .ok (.ireturn, 1) := by decide +kernel
theorem dX9_seekScores_0 : decode cX9_seekScores 0 = .ok (.iconst 0, 1) := by decide +kernel
theorem dX9_seekScores_1 : decode cX9_seekScores 1 = .ok (.istore_n 1, 1) := by decide +kernel
theorem dX9_seekScores_2 : decode cX9_seekScores 2 = .ok (.iload_n 1, 1) := by decide +kernel
theorem dX9_seekScores_3 : decode cX9_seekScores 3 = .ok (.aload_n 0, 1) := by decide +kernel
theorem dX9_seekScores_4 : decode cX9_seekScores 4 = .ok (.getfield 19, 3) := by decide +kernel
theorem dX9_seekScores_7 : decode cX9_seekScores 7 = .ok (.getfield 117, 3) := by decide +kernel
theorem dX9_seekScores_10 : decode cX9_seekScores 10 = .ok (.if_icmp .ge 55, 3) := by decide +kernel
theorem dX9_seekScores_13 : decode cX9_seekScores 13 = .ok (.aload_n 0, 1) := by decide +kernel
theorem dX9_seekScores_14 : decode cX9_seekScores 14 = .ok (.getfield 68, 3) := by decide +kernel
theorem dX9_seekScores_17 : decode cX9_seekScores 17 = .ok (.getfield 280, 3) := by decide +kernel
theorem dX9_seekScores_20 : decode cX9_seekScores 20 = .ok (.iload_n 1, 1) := by decide +kernel
theorem dX9_seekScores_21 : decode cX9_seekScores 21 = .ok (.aload_n 0, 1) := by decide +kernel
theorem dX9_seekScores_22 : decode cX9_seekScores 22 = .ok (.getfield 19, 3) := by decide +kernel
theorem dX9_seekScores_25 : decode cX9_seekScores 25 = .ok (.getfield 122, 3) := by decide +kernel
theorem dX9_seekScores_28 : decode cX9_seekScores 28 = .ok (.iload_n 1, 1) := by decide +kernel
theorem dX9_seekScores_29 : decode cX9_seekScores 29 = .ok (.aaload, 1) := by decide +kernel
theorem dX9_seekScores_30 : decode cX9_seekScores 30 = .ok (.aload_n 0, 1) := by decide +kernel
theorem dX9_seekScores_31 : decode cX9_seekScores 31 = .ok (.getfield 33, 3) := by decide +kernel
theorem dX9_seekScores_34 : decode cX9_seekScores 34 = .ok (.invokevirtual 237, 3) := by decide +kernel
theorem dX9_seekScores_37 : decode cX9_seekScores 37 = .ok (.ifCond .eq 19, 3) := by decide +kernel
theorem dX9_seekScores_40 : decode cX9_seekScores 40 = .ok (.aload_n 0, 1) := by decide +kernel
theorem dX9_seekScores_41 : decode cX9_seekScores 41 = .ok (.aload_n 0, 1) := by decide +kernel
theorem dX9_seekScores_42 : decode cX9_seekScores 42 = .ok (.getfield 19, 3) := by decide +kernel
theorem dX9_seekScores_45 : decode cX9_seekScores 45 = .ok (.getfield 122, 3) := by decide +kernel
theorem dX9_seekScores_48 : decode cX9_seekScores 48 = .ok (.iload_n 1, 1) := by decide +kernel
theorem dX9_seekScores_49 : decode cX9_seekScores 49 = .ok (.aaload, 1) := by decide +kernel
theorem dX9_seekScores_50 : decode cX9_seekScores 50 = .ok (.invokevirtual 203, 3) := by decide +kernel
theorem dX9_seekScores_53 : decode cX9_seekScores 53 = .ok (.goto 5, 3) := by decide +kernel
theorem dX9_seekScores_56 : decode cX9_seekScores 56 = .ok (.bipush (-4), 2) := by decide +kernel
theorem dX9_seekScores_58 : decode cX9_seekScores 58 = .ok (.iastore, 1) := by decide +kernel
theorem dX9_seekScores_59 : decode cX9_seekScores 59 = .ok (.iinc 1 1, 3) := by decide +kernel
theorem dX9_seekScores_62 : decode cX9_seekScores 62 = .ok (.goto (-60), 3) := by decide +kernel
theorem dX9_seekScores_65 : decode cX9_seekScores 65 = .ok (.return_, 1) := by decide +kernel
theorem dX9_isFirstBy_0 : decode cX9_isFirstBy 0 = .ok (.aload_n 0, 1) := by decide +kernel
theorem dX9_isFirstBy_1 : decode cX9_isFirstBy 1 = .ok (.getfield 37, 3) := by decide +kernel
theorem dX9_isFirstBy_4 : decode cX9_isFirstBy 4 = .ok (.invokevirtual 158, 3) := by decide +kernel
theorem dX9_isFirstBy_7 : decode cX9_isFirstBy 7 = .ok (.aload_n 0, 1) := by decide +kernel
theorem dX9_isFirstBy_8 : decode cX9_isFirstBy 8 = .ok (.getfield 37, 3) := by decide +kernel
theorem dX9_isFirstBy_11 : decode cX9_isFirstBy 11 = .ok (.bipush 97, 2) := by decide +kernel
theorem dX9_isFirstBy_13 : decode cX9_isFirstBy 13 = .ok (.iload_n 2, 1) := by decide +kernel
theorem dX9_isFirstBy_14 : decode cX9_isFirstBy 14 = .ok (.iadd, 1) := by decide +kernel
theorem dX9_isFirstBy_15 : decode cX9_isFirstBy 15 = .ok (.iconst 1, 1) := by decide +kernel
theorem dX9_isFirstBy_16 : decode cX9_isFirstBy 16 = .ok (.isub, 1) := by decide +kernel
theorem dX9_isFirstBy_17 : decode cX9_isFirstBy 17 = .ok (.i2c, 1) := by decide +kernel
theorem dX9_isFirstBy_18 : decode cX9_isFirstBy 18 = .ok (.invokevirtual 183, 3) := by decide +kernel
theorem dX9_isFirstBy_21 : decode cX9_isFirstBy 21 = .ok (.iload_n 3, 1) := by decide +kernel
theorem dX9_isFirstBy_22 : decode cX9_isFirstBy 22 = .ok (.ifCond .le 17, 3) := by decide +kernel
theorem dX9_isFirstBy_25 : decode cX9_isFirstBy 25 = .ok (.aload_n 0, 1) := by decide +kernel
theorem dX9_isFirstBy_26 : decode cX9_isFirstBy 26 = .ok (.getfield 37, 3) := by decide +kernel
theorem dX9_isFirstBy_29 : decode cX9_isFirstBy 29 = .ok (.bipush 97, 2) := by decide +kernel
theorem dX9_isFirstBy_31 : decode cX9_isFirstBy 31 = .ok (.iload_n 3, 1) := by decide +kernel
theorem dX9_isFirstBy_32 : decode cX9_isFirstBy 32 = .ok (.iadd, 1) := by decide +kernel
theorem dX9_isFirstBy_33 : decode cX9_isFirstBy 33 = .ok (.iconst 1, 1) := by decide +kernel
theorem dX9_isFirstBy_34 : decode cX9_isFirstBy 34 = .ok (.isub, 1) := by decide +kernel
theorem dX9_isFirstBy_35 : decode cX9_isFirstBy 35 = .ok (.i2c, 1) := by decide +kernel
theorem dX9_isFirstBy_36 : decode cX9_isFirstBy 36 = .ok (.invokevirtual 183, 3) := by decide +kernel
theorem dX9_isFirstBy_39 : decode cX9_isFirstBy 39 = .ok (.aload_n 0, 1) := by decide +kernel
theorem dX9_isFirstBy_40 : decode cX9_isFirstBy 40 = .ok (.getfield 19, 3) := by decide +kernel
theorem dX9_isFirstBy_43 : decode cX9_isFirstBy 43 = .ok (.getfield 122, 3) := by decide +kernel
theorem dX9_isFirstBy_46 : decode cX9_isFirstBy 46 = .ok (.iload_n 1, 1) := by decide +kernel
theorem dX9_isFirstBy_47 : decode cX9_isFirstBy 47 = .ok (.aaload, 1) := by decide +kernel
theorem dX9_isFirstBy_48 : decode cX9_isFirstBy 48 = .ok (.aload_n 0, 1) := by decide +kernel
theorem dX9_isFirstBy_49 : decode cX9_isFirstBy 49 = .ok (.getfield 37, 3) := by decide +kernel
theorem dX9_isFirstBy_52 : decode cX9_isFirstBy 52 = .ok (.invokevirtual 237, 3) := by decide +kernel
theorem dX9_isFirstBy_55 : decode cX9_isFirstBy 55 = .ok (.ifCond .ne 5, 3) := by decide +kernel
theorem dX9_isFirstBy_58 : decode cX9_isFirstBy 58 = .ok (.iconst 0, 1) := by decide +kernel
theorem dX9_isFirstBy_59 : decode cX9_isFirstBy 59 = .ok (.ireturn, 1) := by decide +kernel
theorem dX9_isFirstBy_60 : decode cX9_isFirstBy 60 = .ok (.iconst 0, 1) := by decide +kernel
theorem dX9_isFirstBy_61 : decode cX9_isFirstBy 61 = .ok (.istore 4, 2) := by decide +kernel
theorem dX9_isFirstBy_63 : decode cX9_isFirstBy 63 = .ok (.iload 4, 2) := by decide +kernel
theorem dX9_isFirstBy_65 : decode cX9_isFirstBy 65 = .ok (.aload_n 0, 1) := by decide +kernel
theorem dX9_isFirstBy_66 : decode cX9_isFirstBy 66 = .ok (.getfield 19, 3) := by decide +kernel
theorem dX9_isFirstBy_69 : decode cX9_isFirstBy 69 = .ok (.getfield 117, 3) := by decide +kernel
theorem dX9_isFirstBy_72 : decode cX9_isFirstBy 72 = .ok (.if_icmp .ge 44, 3) := by decide +kernel
theorem dX9_isFirstBy_75 : decode cX9_isFirstBy 75 = .ok (.aload_n 0, 1) := by decide +kernel
theorem dX9_isFirstBy_76 : decode cX9_isFirstBy 76 = .ok (.getfield 68, 3) := by decide +kernel
theorem dX9_isFirstBy_79 : decode cX9_isFirstBy 79 = .ok (.getfield 280, 3) := by decide +kernel
theorem dX9_isFirstBy_82 : decode cX9_isFirstBy 82 = .ok (.iload 4, 2) := by decide +kernel
theorem dX9_isFirstBy_84 : decode cX9_isFirstBy 84 = .ok (.aload_n 0, 1) := by decide +kernel
theorem dX9_isFirstBy_85 : decode cX9_isFirstBy 85 = .ok (.getfield 47, 3) := by decide +kernel
theorem dX9_isFirstBy_88 : decode cX9_isFirstBy 88 = .ok (.aload_n 0, 1) := by decide +kernel
theorem dX9_isFirstBy_89 : decode cX9_isFirstBy 89 = .ok (.getfield 19, 3) := by decide +kernel
theorem dX9_isFirstBy_92 : decode cX9_isFirstBy 92 = .ok (.getfield 122, 3) := by decide +kernel
theorem dX9_isFirstBy_95 : decode cX9_isFirstBy 95 = .ok (.iload 4, 2) := by decide +kernel
theorem dX9_isFirstBy_97 : decode cX9_isFirstBy 97 = .ok (.aaload, 1) := by decide +kernel
theorem dX9_isFirstBy_98 : decode cX9_isFirstBy 98 = .ok (.aload_n 0, 1) := by decide +kernel
theorem dX9_isFirstBy_99 : decode cX9_isFirstBy 99 = .ok (.getfield 37, 3) := by decide +kernel
theorem dX9_isFirstBy_102 : decode cX9_isFirstBy 102 = .ok (.aload_n 0, 1) := by decide +kernel
theorem dX9_isFirstBy_103 : decode cX9_isFirstBy 103 = .ok (.getfield 26, 3) := by decide +kernel
theorem dX9_isFirstBy_106 : decode cX9_isFirstBy 106 = .ok (.invokevirtual 226, 3) := by decide +kernel
theorem dX9_isFirstBy_109 : decode cX9_isFirstBy 109 = .ok (.iastore, 1) := by decide +kernel
theorem dX9_isFirstBy_110 : decode cX9_isFirstBy 110 = .ok (.iinc 4 1, 3) := by decide +kernel
theorem dX9_isFirstBy_113 : decode cX9_isFirstBy 113 = .ok (.goto (-50), 3) := by decide +kernel
theorem dX9_isFirstBy_116 : decode cX9_isFirstBy 116 = .ok (.aload_n 0, 1) := by decide +kernel
theorem dX9_isFirstBy_117 : decode cX9_isFirstBy 117 = .ok (.getfield 68, 3) := by decide +kernel
theorem dX9_isFirstBy_120 : decode cX9_isFirstBy 120 = .ok (.aload_n 0, 1) := by decide +kernel
theorem dX9_isFirstBy_121 : decode cX9_isFirstBy 121 = .ok (.getfield 19, 3) := by decide +kernel
theorem dX9_isFirstBy_124 : decode cX9_isFirstBy 124 = .ok (.iload_n 1, 1) := by decide +kernel
theorem dX9_isFirstBy_125 : decode cX9_isFirstBy 125 = .ok (.invokevirtual 281, 3) := by decide +kernel
theorem dX9_isFirstBy_128 : decode cX9_isFirstBy 128 = .ok (.ireturn, 1) := by decide +kernel
theorem dX9_keep_0 : decode cX9_keep 0 = .ok (.aload_n 0, 1) := by decide +kernel
theorem dX9_keep_1 : decode cX9_keep 1 = .ok (.getfield 72, 3) := by decide +kernel
theorem dX9_keep_4 : decode cX9_keep 4 = .ok (.iconst 2, 1) := by decide +kernel
theorem dX9_keep_5 : decode cX9_keep 5 = .ok (.if_icmp .lt 6, 3) := by decide +kernel
theorem dX9_keep_8 : decode cX9_keep 8 = .ok (.bipush (-3), 2) := by decide +kernel
theorem dX9_keep_10 : decode cX9_keep 10 = .ok (.ireturn, 1) := by decide +kernel
theorem dX9_keep_11 : decode cX9_keep 11 = .ok (.aload_n 0, 1) := by decide +kernel
theorem dX9_keep_12 : decode cX9_keep 12 = .ok (.getfield 40, 3) := by decide +kernel
theorem dX9_keep_15 : decode cX9_keep 15 = .ok (.aload_n 0, 1) := by decide +kernel
theorem dX9_keep_16 : decode cX9_keep 16 = .ok (.getfield 72, 3) := by decide +kernel
theorem dX9_keep_19 : decode cX9_keep 19 = .ok (.aaload, 1) := by decide +kernel
theorem dX9_keep_20 : decode cX9_keep 20 = .ok (.aload_n 0, 1) := by decide +kernel
theorem dX9_keep_21 : decode cX9_keep 21 = .ok (.getfield 33, 3) := by decide +kernel
theorem dX9_keep_24 : decode cX9_keep 24 = .ok (.invokevirtual 285, 3) := by decide +kernel
theorem dX9_keep_27 : decode cX9_keep 27 = .ok (.aload_n 0, 1) := by decide +kernel
theorem dX9_keep_28 : decode cX9_keep 28 = .ok (.dup, 1) := by decide +kernel
theorem dX9_keep_29 : decode cX9_keep 29 = .ok (.getfield 72, 3) := by decide +kernel
theorem dX9_keep_32 : decode cX9_keep 32 = .ok (.iconst 1, 1) := by decide +kernel
theorem dX9_keep_33 : decode cX9_keep 33 = .ok (.iadd, 1) := by decide +kernel
theorem dX9_keep_34 : decode cX9_keep 34 = .ok (.putfield 72, 3) := by decide +kernel
theorem dX9_keep_37 : decode cX9_keep 37 = .ok (.aload_n 0, 1) := by decide +kernel
theorem dX9_keep_38 : decode cX9_keep 38 = .ok (.getfield 72, 3) := by decide +kernel
theorem dX9_keep_41 : decode cX9_keep 41 = .ok (.ireturn, 1) := by decide +kernel
theorem dX9_back_0 : decode cX9_back 0 = .ok (.aload_n 0, 1) := by decide +kernel
theorem dX9_back_1 : decode cX9_back 1 = .ok (.getfield 72, 3) := by decide +kernel
theorem dX9_back_4 : decode cX9_back 4 = .ok (.ifCond .ne 6, 3) := by decide +kernel
theorem dX9_back_7 : decode cX9_back 7 = .ok (.bipush (-2), 2) := by decide +kernel
theorem dX9_back_9 : decode cX9_back 9 = .ok (.ireturn, 1) := by decide +kernel
theorem dX9_back_10 : decode cX9_back 10 = .ok (.aload_n 0, 1) := by decide +kernel
theorem dX9_back_11 : decode cX9_back 11 = .ok (.dup, 1) := by decide +kernel
theorem dX9_back_12 : decode cX9_back 12 = .ok (.getfield 72, 3) := by decide +kernel
theorem dX9_back_15 : decode cX9_back 15 = .ok (.iconst 1, 1) := by decide +kernel
theorem dX9_back_16 : decode cX9_back 16 = .ok (.isub, 1) := by decide +kernel
theorem dX9_back_17 : decode cX9_back 17 = .ok (.putfield 72, 3) := by decide +kernel
theorem dX9_back_20 : decode cX9_back 20 = .ok (.aload_n 0, 1) := by decide +kernel
theorem dX9_back_21 : decode cX9_back 21 = .ok (.getfield 33, 3) := by decide +kernel
theorem dX9_back_24 : decode cX9_back 24 = .ok (.aload_n 0, 1) := by decide +kernel
theorem dX9_back_25 : decode cX9_back 25 = .ok (.getfield 40, 3) := by decide +kernel
theorem dX9_back_28 : decode cX9_back 28 = .ok (.aload_n 0, 1) := by decide +kernel
theorem dX9_back_29 : decode cX9_back 29 = .ok (.getfield 72, 3) := by decide +kernel
theorem dX9_back_32 : decode cX9_back 32 = .ok (.aaload, 1) := by decide +kernel
theorem dX9_back_33 : decode cX9_back 33 = .ok (.invokevirtual 285, 3) := by decide +kernel
theorem dX9_back_36 : decode cX9_back 36 = .ok (.aload_n 0, 1) := by decide +kernel
theorem dX9_back_37 : decode cX9_back 37 = .ok (.getfield 72, 3) := by decide +kernel
theorem dX9_back_40 : decode cX9_back 40 = .ok (.ireturn, 1) := by decide +kernel
theorem dX9_count_0 : decode cX9_count 0 = .ok (.iload_n 1, 1) := by decide +kernel
theorem dX9_count_1 : decode cX9_count 1 = .ok (.tableswitch 164 0 12 #[67, 75, 83, 91, 99, 107, 112, 117, 125, 133, 138, 143, 151], 67) := by decide +kernel
theorem dX9_count_68 : decode cX9_count 68 = .ok (.aload_n 0, 1) := by decide +kernel
theorem dX9_count_69 : decode cX9_count 69 = .ok (.getfield 19, 3) := by decide +kernel
theorem dX9_count_72 : decode cX9_count 72 = .ok (.getfield 117, 3) := by decide +kernel
theorem dX9_count_75 : decode cX9_count 75 = .ok (.ireturn, 1) := by decide +kernel
theorem dX9_count_76 : decode cX9_count 76 = .ok (.aload_n 0, 1) := by decide +kernel
theorem dX9_count_77 : decode cX9_count 77 = .ok (.getfield 26, 3) := by decide +kernel
theorem dX9_count_80 : decode cX9_count 80 = .ok (.getfield 289, 3) := by decide +kernel
theorem dX9_count_83 : decode cX9_count 83 = .ok (.ireturn, 1) := by decide +kernel
theorem dX9_count_84 : decode cX9_count 84 = .ok (.aload_n 0, 1) := by decide +kernel
theorem dX9_count_85 : decode cX9_count 85 = .ok (.getfield 26, 3) := by decide +kernel
theorem dX9_count_88 : decode cX9_count 88 = .ok (.getfield 292, 3) := by decide +kernel
theorem dX9_count_91 : decode cX9_count 91 = .ok (.ireturn, 1) := by decide +kernel
theorem dX9_count_92 : decode cX9_count 92 = .ok (.aload_n 0, 1) := by decide +kernel
theorem dX9_count_93 : decode cX9_count 93 = .ok (.getfield 26, 3) := by decide +kernel
theorem dX9_count_96 : decode cX9_count 96 = .ok (.getfield 295, 3) := by decide +kernel
theorem dX9_count_99 : decode cX9_count 99 = .ok (.ireturn, 1) := by decide +kernel
theorem dX9_count_100 : decode cX9_count 100 = .ok (.aload_n 0, 1) := by decide +kernel
theorem dX9_count_101 : decode cX9_count 101 = .ok (.getfield 19, 3) := by decide +kernel
theorem dX9_count_104 : decode cX9_count 104 = .ok (.getfield 298, 3) := by decide +kernel
theorem dX9_count_107 : decode cX9_count 107 = .ok (.ireturn, 1) := by decide +kernel
theorem dX9_count_108 : decode cX9_count 108 = .ok (.aload_n 0, 1) := by decide +kernel
theorem dX9_count_109 : decode cX9_count 109 = .ok (.getfield 76, 3) := by decide +kernel
theorem dX9_count_112 : decode cX9_count 112 = .ok (.ireturn, 1) := by decide +kernel
theorem dX9_count_113 : decode cX9_count 113 = .ok (.aload_n 0, 1) := by decide +kernel
theorem dX9_count_114 : decode cX9_count 114 = .ok (.getfield 79, 3) := by decide +kernel
theorem dX9_count_117 : decode cX9_count 117 = .ok (.ireturn, 1) := by decide +kernel
theorem dX9_count_118 : decode cX9_count 118 = .ok (.aload_n 0, 1) := by decide +kernel
theorem dX9_count_119 : decode cX9_count 119 = .ok (.getfield 54, 3) := by decide +kernel
theorem dX9_count_122 : decode cX9_count 122 = .ok (.getfield 267, 3) := by decide +kernel
theorem dX9_count_125 : decode cX9_count 125 = .ok (.ireturn, 1) := by decide +kernel
theorem dX9_count_126 : decode cX9_count 126 = .ok (.aload_n 0, 1) := by decide +kernel
theorem dX9_count_127 : decode cX9_count 127 = .ok (.getfield 54, 3) := by decide +kernel
theorem dX9_count_130 : decode cX9_count 130 = .ok (.getfield 273, 3) := by decide +kernel
theorem dX9_count_133 : decode cX9_count 133 = .ok (.ireturn, 1) := by decide +kernel
theorem dX9_count_134 : decode cX9_count 134 = .ok (.aload_n 0, 1) := by decide +kernel
theorem dX9_count_135 : decode cX9_count 135 = .ok (.getfield 82, 3) := by decide +kernel
theorem dX9_count_138 : decode cX9_count 138 = .ok (.ireturn, 1) := by decide +kernel
theorem dX9_count_139 : decode cX9_count 139 = .ok (.aload_n 0, 1) := by decide +kernel
theorem dX9_count_140 : decode cX9_count 140 = .ok (.getfield 72, 3) := by decide +kernel
theorem dX9_count_143 : decode cX9_count 143 = .ok (.ireturn, 1) := by decide +kernel
theorem dX9_count_144 : decode cX9_count 144 = .ok (.aload_n 0, 1) := by decide +kernel
theorem dX9_count_145 : decode cX9_count 145 = .ok (.getfield 10, 3) := by decide +kernel
theorem dX9_count_148 : decode cX9_count 148 = .ok (.getfield 107, 3) := by decide +kernel
theorem dX9_count_151 : decode cX9_count 151 = .ok (.ireturn, 1) := by decide +kernel
theorem dX9_count_152 : decode cX9_count 152 = .ok (.aload_n 0, 1) := by decide +kernel
theorem dX9_count_153 : decode cX9_count 153 = .ok (.getfield 33, 3) := by decide +kernel
theorem dX9_count_156 : decode cX9_count 156 = .ok (.invokevirtual 214, 3) := by decide +kernel
theorem dX9_count_159 : decode cX9_count 159 = .ok (.ldc2_w 246, 3) := by decide +kernel
theorem dX9_count_162 : decode cX9_count 162 = .ok (.lrem, 1) := by decide +kernel
theorem dX9_count_163 : decode cX9_count 163 = .ok (.l2i, 1) := by decide +kernel
theorem dX9_count_164 : decode cX9_count 164 = .ok (.ireturn, 1) := by decide +kernel
theorem dX9_count_165 : decode cX9_count 165 = .ok (.iconst (-1), 1) := by decide +kernel
theorem dX9_count_166 : decode cX9_count 166 = .ok (.ireturn, 1) := by decide +kernel
theorem dX9_isSmall_0 : decode cX9_isSmall 0 = .ok (.iload_n 0, 1) := by decide +kernel
theorem dX9_isSmall_1 : decode cX9_isSmall 1 = .ok (.bipush 97, 2) := by decide +kernel
theorem dX9_isSmall_3 : decode cX9_isSmall 3 = .ok (.if_icmp .lt 13, 3) := by decide +kernel
theorem dX9_isSmall_6 : decode cX9_isSmall 6 = .ok (.iload_n 0, 1) := by decide +kernel
theorem dX9_isSmall_7 : decode cX9_isSmall 7 = .ok (.bipush 122, 2) := by decide +kernel
theorem dX9_isSmall_9 : decode cX9_isSmall 9 = .ok (.if_icmp .gt 7, 3) := by decide +kernel
theorem dX9_isSmall_12 : decode cX9_isSmall 12 = .ok (.iconst 1, 1) := by decide +kernel
theorem dX9_isSmall_13 : decode cX9_isSmall 13 = .ok (.goto 4, 3) := by decide +kernel
theorem dX9_isSmall_16 : decode cX9_isSmall 16 = .ok (.iconst 0, 1) := by decide +kernel
theorem dX9_isSmall_17 : decode cX9_isSmall 17 = .ok (.ireturn, 1) := by decide +kernel
theorem dX9_isGreat_0 : decode cX9_isGreat 0 = .ok (.iload_n 0, 1) := by decide +kernel
theorem dX9_isGreat_1 : decode cX9_isGreat 1 = .ok (.bipush 65, 2) := by decide +kernel
theorem dX9_isGreat_3 : decode cX9_isGreat 3 = .ok (.if_icmp .lt 13, 3) := by decide +kernel
theorem dX9_isGreat_6 : decode cX9_isGreat 6 = .ok (.iload_n 0, 1) := by decide +kernel
theorem dX9_isGreat_7 : decode cX9_isGreat 7 = .ok (.bipush 90, 2) := by decide +kernel
theorem dX9_isGreat_9 : decode cX9_isGreat 9 = .ok (.if_icmp .gt 7, 3) := by decide +kernel
theorem dX9_isGreat_12 : decode cX9_isGreat 12 = .ok (.iconst 1, 1) := by decide +kernel
theorem dX9_isGreat_13 : decode cX9_isGreat 13 = .ok (.goto 4, 3) := by decide +kernel
theorem dX9_isGreat_16 : decode cX9_isGreat 16 = .ok (.iconst 0, 1) := by decide +kernel
theorem dX9_isGreat_17 : decode cX9_isGreat 17 = .ok (.ireturn, 1) := by decide +kernel
theorem dX9_isLetter_0 : decode cX9_isLetter 0 = .ok (.iload_n 0, 1) := by decide +kernel
theorem dX9_isLetter_1 : decode cX9_isLetter 1 = .ok (.invokestatic 301, 3) := by decide +kernel
theorem dX9_isLetter_4 : decode cX9_isLetter 4 = .ok (.ifCond .ne 10, 3) := by decide +kernel
theorem dX9_isLetter_7 : decode cX9_isLetter 7 = .ok (.iload_n 0, 1) := by decide +kernel
theorem dX9_isLetter_8 : decode cX9_isLetter 8 = .ok (.invokestatic 304, 3) := by decide +kernel
theorem dX9_isLetter_11 : decode cX9_isLetter 11 = .ok (.ifCond .eq 7, 3) := by decide +kernel
theorem dX9_isLetter_14 : decode cX9_isLetter 14 = .ok (.iconst 1, 1) := by decide +kernel
theorem dX9_isLetter_15 : decode cX9_isLetter 15 = .ok (.goto 4, 3) := by decide +kernel
theorem dX9_isLetter_18 : decode cX9_isLetter 18 = .ok (.iconst 0, 1) := by decide +kernel
theorem dX9_isLetter_19 : decode cX9_isLetter 19 = .ok (.ireturn, 1) := by decide +kernel
theorem dX9_isSign_0 : decode cX9_isSign 0 = .ok (.iload_n 0, 1) := by decide +kernel
theorem dX9_isSign_1 : decode cX9_isSign 1 = .ok (.invokestatic 179, 3) := by decide +kernel
theorem dX9_isSign_4 : decode cX9_isSign 4 = .ok (.ifCond .ne 9, 3) := by decide +kernel
theorem dX9_isSign_7 : decode cX9_isSign 7 = .ok (.iload_n 0, 1) := by decide +kernel
theorem dX9_isSign_8 : decode cX9_isSign 8 = .ok (.bipush 95, 2) := by decide +kernel
theorem dX9_isSign_10 : decode cX9_isSign 10 = .ok (.if_icmp .ne 7, 3) := by decide +kernel
theorem dX9_isSign_13 : decode cX9_isSign 13 = .ok (.iconst 1, 1) := by decide +kernel
theorem dX9_isSign_14 : decode cX9_isSign 14 = .ok (.goto 4, 3) := by decide +kernel
theorem dX9_isSign_17 : decode cX9_isSign 17 = .ok (.iconst 0, 1) := by decide +kernel
theorem dX9_isSign_18 : decode cX9_isSign 18 = .ok (.ireturn, 1) := by decide +kernel
theorem dX9_letterNumber_0 : decode cX9_letterNumber 0 = .ok (.iload_n 0, 1) := by decide +kernel
theorem dX9_letterNumber_1 : decode cX9_letterNumber 1 = .ok (.invokestatic 301, 3) := by decide +kernel
theorem dX9_letterNumber_4 : decode cX9_letterNumber 4 = .ok (.ifCond .eq 10, 3) := by decide +kernel
theorem dX9_letterNumber_7 : decode cX9_letterNumber 7 = .ok (.iload_n 0, 1) := by decide +kernel
theorem dX9_letterNumber_8 : decode cX9_letterNumber 8 = .ok (.bipush 97, 2) := by decide +kernel
theorem dX9_letterNumber_10 : decode cX9_letterNumber 10 = .ok (.isub, 1) := by decide +kernel
theorem dX9_letterNumber_11 : decode cX9_letterNumber 11 = .ok (.goto 7, 3) := by decide +kernel
theorem dX9_letterNumber_14 : decode cX9_letterNumber 14 = .ok (.iload_n 0, 1) := by decide +kernel
theorem dX9_letterNumber_15 : decode cX9_letterNumber 15 = .ok (.bipush 65, 2) := by decide +kernel
theorem dX9_letterNumber_17 : decode cX9_letterNumber 17 = .ok (.isub, 1) := by decide +kernel
theorem dX9_letterNumber_18 : decode cX9_letterNumber 18 = .ok (.ireturn, 1) := by decide +kernel
theorem dX10_init_0 : decode cX10_init 0 = .ok (.aload_n 0, 1) := by decide +kernel
theorem dX10_init_1 : decode cX10_init 1 = .ok (.invokespecial 1, 3) := by decide +kernel
theorem dX10_init_4 : decode cX10_init 4 = .ok (.aload_n 0, 1) := by decide +kernel
theorem dX10_init_5 : decode cX10_init 5 = .ok (.sipush 200, 3) := by decide +kernel
theorem dX10_init_8 : decode cX10_init 8 = .ok (.newarray .int, 2) := by decide +kernel
theorem dX10_init_10 : decode cX10_init 10 = .ok (.putfield 7, 3) := by decide +kernel
theorem dX10_init_13 : decode cX10_init 13 = .ok (.aload_n 0, 1) := by decide +kernel
theorem dX10_init_14 : decode cX10_init 14 = .ok (.bipush 96, 2) := by decide +kernel
theorem dX10_init_16 : decode cX10_init 16 = .ok (.newarray .int, 2) := by decide +kernel
theorem dX10_init_18 : decode cX10_init 18 = .ok (.putfield 13, 3) := by decide +kernel
theorem dX10_init_21 : decode cX10_init 21 = .ok (.aload_n 0, 1) := by decide +kernel
theorem dX10_init_22 : decode cX10_init 22 = .ok (.bipush 8, 2) := by decide +kernel
theorem dX10_init_24 : decode cX10_init 24 = .ok (.newarray .int, 2) := by decide +kernel
theorem dX10_init_26 : decode cX10_init 26 = .ok (.putfield 16, 3) := by decide +kernel
theorem dX10_init_29 : decode cX10_init 29 = .ok (.aload_n 0, 1) := by decide +kernel
theorem dX10_init_30 : decode cX10_init 30 = .ok (.bipush 8, 2) := by decide +kernel
theorem dX10_init_32 : decode cX10_init 32 = .ok (.newarray .int, 2) := by decide +kernel
theorem dX10_init_34 : decode cX10_init 34 = .ok (.putfield 19, 3) := by decide +kernel
theorem dX10_init_37 : decode cX10_init 37 = .ok (.aload_n 0, 1) := by decide +kernel
theorem dX10_init_38 : decode cX10_init 38 = .ok (.bipush 8, 2) := by decide +kernel
theorem dX10_init_40 : decode cX10_init 40 = .ok (.newarray .int, 2) := by decide +kernel
theorem dX10_init_42 : decode cX10_init 42 = .ok (.putfield 22, 3) := by decide +kernel
theorem dX10_init_45 : decode cX10_init 45 = .ok (.aload_n 0, 1) := by decide +kernel
theorem dX10_init_46 : decode cX10_init 46 = .ok (.bipush 8, 2) := by decide +kernel
theorem dX10_init_48 : decode cX10_init 48 = .ok (.newarray .int, 2) := by decide +kernel
theorem dX10_init_50 : decode cX10_init 50 = .ok (.putfield 25, 3) := by decide +kernel
theorem dX10_init_53 : decode cX10_init 53 = .ok (.aload_n 0, 1) := by decide +kernel
theorem dX10_init_54 : decode cX10_init 54 = .ok (.iconst 3, 1) := by decide +kernel
theorem dX10_init_55 : decode cX10_init 55 = .ok (.newarray .int, 2) := by decide +kernel
theorem dX10_init_57 : decode cX10_init 57 = .ok (.putfield 28, 3) := by decide +kernel
theorem dX10_init_60 : decode cX10_init 60 = .ok (.aload_n 0, 1) := by decide +kernel
theorem dX10_init_61 : decode cX10_init 61 = .ok (.bipush 96, 2) := by decide +kernel
theorem dX10_init_63 : decode cX10_init 63 = .ok (.newarray .int, 2) := by decide +kernel
theorem dX10_init_65 : decode cX10_init 65 = .ok (.putfield 31, 3) := by decide +kernel
theorem dX10_init_68 : decode cX10_init 68 = .ok (.aload_n 0, 1) := by decide +kernel
theorem dX10_init_69 : decode cX10_init 69 = .ok (.bipush 8, 2) := by decide +kernel
theorem dX10_init_71 : decode cX10_init 71 = .ok (.newarray .int, 2) := by decide +kernel
theorem dX10_init_73 : decode cX10_init 73 = .ok (.putfield 34, 3) := by decide +kernel
theorem dX10_init_76 : decode cX10_init 76 = .ok (.aload_n 0, 1) := by decide +kernel
theorem dX10_init_77 : decode cX10_init 77 = .ok (.bipush 8, 2) := by decide +kernel
theorem dX10_init_79 : decode cX10_init 79 = .ok (.newarray .int, 2) := by decide +kernel
theorem dX10_init_81 : decode cX10_init 81 = .ok (.putfield 37, 3) := by decide +kernel
theorem dX10_init_84 : decode cX10_init 84 = .ok (.aload_n 0, 1) := by decide +kernel
theorem dX10_init_85 : decode cX10_init 85 = .ok (.iconst 3, 1) := by decide +kernel
theorem dX10_init_86 : decode cX10_init 86 = .ok (.newarray .int, 2) := by decide +kernel
theorem dX10_init_88 : decode cX10_init 88 = .ok (.putfield 40, 3) := by decide +kernel
theorem dX10_init_91 : decode cX10_init 91 = .ok (.aload_n 0, 1) := by decide +kernel
theorem dX10_init_92 : decode cX10_init 92 = .ok (.bipush 6, 2) := by decide +kernel
theorem dX10_init_94 : decode cX10_init 94 = .ok (.newarray .int, 2) := by decide +kernel
theorem dX10_init_96 : decode cX10_init 96 = .ok (.putfield 43, 3) := by decide +kernel
theorem dX10_init_99 : decode cX10_init 99 = .ok (.aload_n 0, 1) := by decide +kernel
theorem dX10_init_100 : decode cX10_init 100 = .ok (.bipush 12, 2) := by decide +kernel
theorem dX10_init_102 : decode cX10_init 102 = .ok (.newarray .int, 2) := by decide +kernel
theorem dX10_init_104 : decode cX10_init 104 = .ok (.putfield 46, 3) := by decide +kernel
theorem dX10_init_107 : decode cX10_init 107 = .ok (.aload_n 0, 1) := by decide +kernel
theorem dX10_init_108 : decode cX10_init 108 = .ok (.iconst 2, 1) := by decide +kernel
theorem dX10_init_109 : decode cX10_init 109 = .ok (.newarray .int, 2) := by decide +kernel
theorem dX10_init_111 : decode cX10_init 111 = .ok (.putfield 49, 3) := by decide +kernel
theorem dX10_init_114 : decode cX10_init 114 = .ok (.aload_n 0, 1) := by decide +kernel
theorem dX10_init_115 : decode cX10_init 115 = .ok (.iconst 1, 1) := by decide +kernel
theorem dX10_init_116 : decode cX10_init 116 = .ok (.putfield 52, 3) := by decide +kernel
theorem dX10_init_119 : decode cX10_init 119 = .ok (.aload_n 0, 1) := by decide +kernel
theorem dX10_init_120 : decode cX10_init 120 = .ok (.iconst 1, 1) := by decide +kernel
theorem dX10_init_121 : decode cX10_init 121 = .ok (.putfield 56, 3) := by decide +kernel
theorem dX10_init_124 : decode cX10_init 124 = .ok (.aload_n 0, 1) := by decide +kernel
theorem dX10_init_125 : decode cX10_init 125 = .ok (.bipush 6, 2) := by decide +kernel
theorem dX10_init_127 : decode cX10_init 127 = .ok (.newarray .long, 2) := by decide +kernel
theorem dX10_init_129 : decode cX10_init 129 = .ok (.putfield 59, 3) := by decide +kernel
theorem dX10_init_132 : decode cX10_init 132 = .ok (.aload_n 0, 1) := by decide +kernel
theorem dX10_init_133 : decode cX10_init 133 = .ok (.bipush 32, 2) := by decide +kernel
theorem dX10_init_135 : decode cX10_init 135 = .ok (.newarray .int, 2) := by decide +kernel
theorem dX10_init_137 : decode cX10_init 137 = .ok (.putfield 63, 3) := by decide +kernel
theorem dX10_init_140 : decode cX10_init 140 = .ok (.aload_n 0, 1) := by decide +kernel
theorem dX10_init_141 : decode cX10_init 141 = .ok (.bipush 32, 2) := by decide +kernel
theorem dX10_init_143 : decode cX10_init 143 = .ok (.newarray .long, 2) := by decide +kernel
theorem dX10_init_145 : decode cX10_init 145 = .ok (.putfield 66, 3) := by decide +kernel
theorem dX10_init_148 : decode cX10_init 148 = .ok (.aload_n 0, 1) := by decide +kernel
theorem dX10_init_149 : decode cX10_init 149 = .ok (.bipush 32, 2) := by decide +kernel
theorem dX10_init_151 : decode cX10_init 151 = .ok (.newarray .int, 2) := by decide +kernel
theorem dX10_init_153 : decode cX10_init 153 = .ok (.putfield 69, 3) := by decide +kernel
theorem dX10_init_156 : decode cX10_init 156 = .ok (.aload_n 0, 1) := by decide +kernel
theorem dX10_init_157 : decode cX10_init 157 = .ok (.bipush 32, 2) := by decide +kernel
theorem dX10_init_159 : decode cX10_init 159 = .ok (.newarray .int, 2) := by decide +kernel
theorem dX10_init_161 : decode cX10_init 161 = .ok (.putfield 72, 3) := by decide +kernel
theorem dX10_init_164 : decode cX10_init 164 = .ok (.aload_n 0, 1) := by decide +kernel
theorem dX10_init_165 : decode cX10_init 165 = .ok (.bipush 6, 2) := by decide +kernel
theorem dX10_init_167 : decode cX10_init 167 = .ok (.newarray .int, 2) := by decide +kernel
theorem dX10_init_169 : decode cX10_init 169 = .ok (.putfield 75, 3) := by decide +kernel
theorem dX10_init_172 : decode cX10_init 172 = .ok (.aload_n 0, 1) := by decide +kernel
theorem dX10_init_173 : decode cX10_init 173 = .ok (.bipush 6, 2) := by decide +kernel
theorem dX10_init_175 : decode cX10_init 175 = .ok (.newarray .int, 2) := by decide +kernel
theorem dX10_init_177 : decode cX10_init 177 = .ok (.putfield 78, 3) := by decide +kernel
theorem dX10_init_180 : decode cX10_init 180 = .ok (.aload_n 0, 1) := by decide +kernel
theorem dX10_init_181 : decode cX10_init 181 = .ok (.bipush 6, 2) := by decide +kernel
theorem dX10_init_183 : decode cX10_init 183 = .ok (.newarray .int, 2) := by decide +kernel
theorem dX10_init_185 : decode cX10_init 185 = .ok (.putfield 81, 3) := by decide +kernel
theorem dX10_init_188 : decode cX10_init 188 = .ok (.aload_n 0, 1) := by decide +kernel
theorem dX10_init_189 : decode cX10_init 189 = .ok (.bipush 8, 2) := by decide +kernel
theorem dX10_init_191 : decode cX10_init 191 = .ok (.newarray .int, 2) := by decide +kernel
theorem dX10_init_193 : decode cX10_init 193 = .ok (.putfield 84, 3) := by decide +kernel
theorem dX10_init_196 : decode cX10_init 196 = .ok (.aload_n 0, 1) := by decide +kernel
theorem dX10_init_197 : decode cX10_init 197 = .ok (.bipush 26, 2) := by decide +kernel
theorem dX10_init_199 : decode cX10_init 199 = .ok (.newarray .int, 2) := by decide +kernel
theorem dX10_init_201 : decode cX10_init 201 = .ok (.dup, 1) := by decide +kernel
theorem dX10_init_202 : decode cX10_init 202 = .ok (.iconst 0, 1) := by decide +kernel
theorem dX10_init_203 : decode cX10_init 203 = .ok (.bipush 111, 2) := by decide +kernel
theorem dX10_init_205 : decode cX10_init 205 = .ok (.iastore, 1) := by decide +kernel
theorem dX10_init_206 : decode cX10_init 206 = .ok (.dup, 1) := by decide +kernel
theorem dX10_init_207 : decode cX10_init 207 = .ok (.iconst 1, 1) := by decide +kernel
theorem dX10_init_208 : decode cX10_init 208 = .ok (.bipush 112, 2) := by decide +kernel
theorem dX10_init_210 : decode cX10_init 210 = .ok (.iastore, 1) := by decide +kernel
theorem dX10_init_211 : decode cX10_init 211 = .ok (.dup, 1) := by decide +kernel
theorem dX10_init_212 : decode cX10_init 212 = .ok (.iconst 2, 1) := by decide +kernel
theorem dX10_init_213 : decode cX10_init 213 = .ok (.bipush 101, 2) := by decide +kernel
theorem dX10_init_215 : decode cX10_init 215 = .ok (.iastore, 1) := by decide +kernel
theorem dX10_init_216 : decode cX10_init 216 = .ok (.dup, 1) := by decide +kernel
theorem dX10_init_217 : decode cX10_init 217 = .ok (.iconst 3, 1) := by decide +kernel
theorem dX10_init_218 : decode cX10_init 218 = .ok (.bipush 110, 2) := by decide +kernel
theorem dX10_init_220 : decode cX10_init 220 = .ok (.iastore, 1) := by decide +kernel
theorem dX10_init_221 : decode cX10_init 221 = .ok (.dup, 1) := by decide +kernel
theorem dX10_init_222 : decode cX10_init 222 = .ok (.iconst 4, 1) := by decide +kernel
theorem dX10_init_223 : decode cX10_init 223 = .ok (.bipush 70, 2) := by decide +kernel
theorem dX10_init_225 : decode cX10_init 225 = .ok (.iastore, 1) := by decide +kernel
theorem dX10_init_226 : decode cX10_init 226 = .ok (.dup, 1) := by decide +kernel
theorem dX10_init_227 : decode cX10_init 227 = .ok (.iconst 5, 1) := by decide +kernel
theorem dX10_init_228 : decode cX10_init 228 = .ok (.bipush 105, 2) := by decide +kernel
theorem dX10_init_230 : decode cX10_init 230 = .ok (.iastore, 1) := by decide +kernel
theorem dX10_init_231 : decode cX10_init 231 = .ok (.dup, 1) := by decide +kernel
theorem dX10_init_232 : decode cX10_init 232 = .ok (.bipush 6, 2) := by decide +kernel
theorem dX10_init_234 : decode cX10_init 234 = .ok (.bipush 108, 2) := by decide +kernel
theorem dX10_init_236 : decode cX10_init 236 = .ok (.iastore, 1) := by decide +kernel
theorem dX10_init_237 : decode cX10_init 237 = .ok (.dup, 1) := by decide +kernel
theorem dX10_init_238 : decode cX10_init 238 = .ok (.bipush 7, 2) := by decide +kernel
theorem dX10_init_240 : decode cX10_init 240 = .ok (.bipush 101, 2) := by decide +kernel
theorem dX10_init_242 : decode cX10_init 242 = .ok (.iastore, 1) := by decide +kernel
theorem dX10_init_243 : decode cX10_init 243 = .ok (.dup, 1) := by decide +kernel
theorem dX10_init_244 : decode cX10_init 244 = .ok (.bipush 8, 2) := by decide +kernel
theorem dX10_init_246 : decode cX10_init 246 = .ok (.bipush 111, 2) := by decide +kernel
theorem dX10_init_248 : decode cX10_init 248 = .ok (.iastore, 1) := by decide +kernel
theorem dX10_init_249 : decode cX10_init 249 = .ok (.dup, 1) := by decide +kernel
theorem dX10_init_250 : decode cX10_init 250 = .ok (.bipush 9, 2) := by decide +kernel
theorem dX10_init_252 : decode cX10_init 252 = .ok (.bipush 112, 2) := by decide +kernel
theorem dX10_init_254 : decode cX10_init 254 = .ok (.iastore, 1) := by decide +kernel
theorem dX10_init_255 : decode cX10_init 255 = .ok (.dup, 1) := by decide +kernel
theorem dX10_init_256 : decode cX10_init 256 = .ok (.bipush 10, 2) := by decide +kernel
theorem dX10_init_258 : decode cX10_init 258 = .ok (.bipush 101, 2) := by decide +kernel
theorem dX10_init_260 : decode cX10_init 260 = .ok (.iastore, 1) := by decide +kernel
theorem dX10_init_261 : decode cX10_init 261 = .ok (.dup, 1) := by decide +kernel
theorem dX10_init_262 : decode cX10_init 262 = .ok (.bipush 11, 2) := by decide +kernel
theorem dX10_init_264 : decode cX10_init 264 = .ok (.bipush 110, 2) := by decide +kernel
theorem dX10_init_266 : decode cX10_init 266 = .ok (.iastore, 1) := by decide +kernel
theorem dX10_init_267 : decode cX10_init 267 = .ok (.dup, 1) := by decide +kernel
theorem dX10_init_268 : decode cX10_init 268 = .ok (.bipush 12, 2) := by decide +kernel
theorem dX10_init_270 : decode cX10_init 270 = .ok (.bipush 95, 2) := by decide +kernel
theorem dX10_init_272 : decode cX10_init 272 = .ok (.iastore, 1) := by decide +kernel
theorem dX10_init_273 : decode cX10_init 273 = .ok (.dup, 1) := by decide +kernel
theorem dX10_init_274 : decode cX10_init 274 = .ok (.bipush 13, 2) := by decide +kernel
theorem dX10_init_276 : decode cX10_init 276 = .ok (.bipush 102, 2) := by decide +kernel
theorem dX10_init_278 : decode cX10_init 278 = .ok (.iastore, 1) := by decide +kernel
theorem dX10_init_279 : decode cX10_init 279 = .ok (.dup, 1) := by decide +kernel
theorem dX10_init_280 : decode cX10_init 280 = .ok (.bipush 14, 2) := by decide +kernel
theorem dX10_init_282 : decode cX10_init 282 = .ok (.bipush 105, 2) := by decide +kernel
theorem dX10_init_284 : decode cX10_init 284 = .ok (.iastore, 1) := by decide +kernel
theorem dX10_init_285 : decode cX10_init 285 = .ok (.dup, 1) := by decide +kernel
theorem dX10_init_286 : decode cX10_init 286 = .ok (.bipush 15, 2) := by decide +kernel
theorem dX10_init_288 : decode cX10_init 288 = .ok (.bipush 108, 2) := by decide +kernel
theorem dX10_init_290 : decode cX10_init 290 = .ok (.iastore, 1) := by decide +kernel
theorem dX10_init_291 : decode cX10_init 291 = .ok (.dup, 1) := by decide +kernel
theorem dX10_init_292 : decode cX10_init 292 = .ok (.bipush 16, 2) := by decide +kernel
theorem dX10_init_294 : decode cX10_init 294 = .ok (.bipush 101, 2) := by decide +kernel
theorem dX10_init_296 : decode cX10_init 296 = .ok (.iastore, 1) := by decide +kernel
theorem dX10_init_297 : decode cX10_init 297 = .ok (.dup, 1) := by decide +kernel
theorem dX10_init_298 : decode cX10_init 298 = .ok (.bipush 17, 2) := by decide +kernel
theorem dX10_init_300 : decode cX10_init 300 = .ok (.bipush 79, 2) := by decide +kernel
theorem dX10_init_302 : decode cX10_init 302 = .ok (.iastore, 1) := by decide +kernel
theorem dX10_init_303 : decode cX10_init 303 = .ok (.dup, 1) := by decide +kernel
theorem dX10_init_304 : decode cX10_init 304 = .ok (.bipush 18, 2) := by decide +kernel
theorem dX10_init_306 : decode cX10_init 306 = .ok (.bipush 112, 2) := by decide +kernel
theorem dX10_init_308 : decode cX10_init 308 = .ok (.iastore, 1) := by decide +kernel
theorem dX10_init_309 : decode cX10_init 309 = .ok (.dup, 1) := by decide +kernel
theorem dX10_init_310 : decode cX10_init 310 = .ok (.bipush 19, 2) := by decide +kernel
theorem dX10_init_312 : decode cX10_init 312 = .ok (.bipush 101, 2) := by decide +kernel
theorem dX10_init_314 : decode cX10_init 314 = .ok (.iastore, 1) := by decide +kernel
theorem dX10_init_315 : decode cX10_init 315 = .ok (.dup, 1) := by decide +kernel
theorem dX10_init_316 : decode cX10_init 316 = .ok (.bipush 20, 2) := by decide +kernel
theorem dX10_init_318 : decode cX10_init 318 = .ok (.bipush 110, 2) := by decide +kernel
theorem dX10_init_320 : decode cX10_init 320 = .ok (.iastore, 1) := by decide +kernel
theorem dX10_init_321 : decode cX10_init 321 = .ok (.dup, 1) := by decide +kernel
theorem dX10_init_322 : decode cX10_init 322 = .ok (.bipush 21, 2) := by decide +kernel
theorem dX10_init_324 : decode cX10_init 324 = .ok (.bipush 70, 2) := by decide +kernel
theorem dX10_init_326 : decode cX10_init 326 = .ok (.iastore, 1) := by decide +kernel
theorem dX10_init_327 : decode cX10_init 327 = .ok (.dup, 1) := by decide +kernel
theorem dX10_init_328 : decode cX10_init 328 = .ok (.bipush 22, 2) := by decide +kernel
theorem dX10_init_330 : decode cX10_init 330 = .ok (.bipush 111, 2) := by decide +kernel
theorem dX10_init_332 : decode cX10_init 332 = .ok (.iastore, 1) := by decide +kernel
theorem dX10_init_333 : decode cX10_init 333 = .ok (.dup, 1) := by decide +kernel
theorem dX10_init_334 : decode cX10_init 334 = .ok (.bipush 23, 2) := by decide +kernel
theorem dX10_init_336 : decode cX10_init 336 = .ok (.bipush 108, 2) := by decide +kernel
theorem dX10_init_338 : decode cX10_init 338 = .ok (.iastore, 1) := by decide +kernel
theorem dX10_init_339 : decode cX10_init 339 = .ok (.dup, 1) := by decide +kernel
theorem dX10_init_340 : decode cX10_init 340 = .ok (.bipush 24, 2) := by decide +kernel
theorem dX10_init_342 : decode cX10_init 342 = .ok (.bipush 105, 2) := by decide +kernel
theorem dX10_init_344 : decode cX10_init 344 = .ok (.iastore, 1) := by decide +kernel
theorem dX10_init_345 : decode cX10_init 345 = .ok (.dup, 1) := by decide +kernel
theorem dX10_init_346 : decode cX10_init 346 = .ok (.bipush 25, 2) := by decide +kernel
theorem dX10_init_348 : decode cX10_init 348 = .ok (.bipush 111, 2) := by decide +kernel
theorem dX10_init_350 : decode cX10_init 350 = .ok (.iastore, 1) := by decide +kernel
theorem dX10_init_351 : decode cX10_init 351 = .ok (.putfield 87, 3) := by decide +kernel
theorem dX10_init_354 : decode cX10_init 354 = .ok (.aload_n 0, 1) := by decide +kernel
theorem dX10_init_355 : decode cX10_init 355 = .ok (.bipush 21, 2) := by decide +kernel
theorem dX10_init_357 : decode cX10_init 357 = .ok (.newarray .int, 2) := by decide +kernel
theorem dX10_init_359 : decode cX10_init 359 = .ok (.dup, 1) := by decide +kernel
theorem dX10_init_360 : decode cX10_init 360 = .ok (.iconst 0, 1) := by decide +kernel
theorem dX10_init_361 : decode cX10_init 361 = .ok (.bipush 108, 2) := by decide +kernel
theorem dX10_init_363 : decode cX10_init 363 = .ok (.iastore, 1) := by decide +kernel
theorem dX10_init_364 : decode cX10_init 364 = .ok (.dup, 1) := by decide +kernel
theorem dX10_init_365 : decode cX10_init 365 = .ok (.iconst 1, 1) := by decide +kernel
end
section
theorem dX10_init_366 : decode cX10_init 366 = .ok (.bipush 97, 2) := by decide +kernel
theorem dX10_init_368 : decode cX10_init 368 = .ok (.iastore, 1) := by decide +kernel
theorem dX10_init_369 : decode cX10_init 369 = .ok (.dup, 1) := by decide +kernel
theorem dX10_init_370 : decode cX10_init 370 = .ok (.iconst 2, 1) := by decide +kernel
theorem dX10_init_371 : decode cX10_init 371 = .ok (.bipush 115, 2) := by decide +kernel
theorem dX10_init_373 : decode cX10_init 373 = .ok (.iastore, 1) := by decide +kernel
theorem dX10_init_374 : decode cX10_init 374 = .ok (.dup, 1) := by decide +kernel
theorem dX10_init_375 : decode cX10_init 375 = .ok (.iconst 3, 1) := by decide +kernel
theorem dX10_init_376 : decode cX10_init 376 = .ok (.bipush 116, 2) := by decide +kernel
theorem dX10_init_378 : decode cX10_init 378 = .ok (.iastore, 1) := by decide +kernel
theorem dX10_init_379 : decode cX10_init 379 = .ok (.dup, 1) := by decide +kernel
theorem dX10_init_380 : decode cX10_init 380 = .ok (.iconst 4, 1) := by decide +kernel
theorem dX10_init_381 : decode cX10_init 381 = .ok (.bipush 79, 2) := by decide +kernel
theorem dX10_init_383 : decode cX10_init 383 = .ok (.iastore, 1) := by decide +kernel
theorem dX10_init_384 : decode cX10_init 384 = .ok (.dup, 1) := by decide +kernel
theorem dX10_init_385 : decode cX10_init 385 = .ok (.iconst 5, 1) := by decide +kernel
theorem dX10_init_386 : decode cX10_init 386 = .ok (.bipush 112, 2) := by decide +kernel
theorem dX10_init_388 : decode cX10_init 388 = .ok (.iastore, 1) := by decide +kernel
theorem dX10_init_389 : decode cX10_init 389 = .ok (.dup, 1) := by decide +kernel
theorem dX10_init_390 : decode cX10_init 390 = .ok (.bipush 6, 2) := by decide +kernel
theorem dX10_init_392 : decode cX10_init 392 = .ok (.bipush 101, 2) := by decide +kernel
theorem dX10_init_394 : decode cX10_init 394 = .ok (.iastore, 1) := by decide +kernel
theorem dX10_init_395 : decode cX10_init 395 = .ok (.dup, 1) := by decide +kernel
theorem dX10_init_396 : decode cX10_init 396 = .ok (.bipush 7, 2) := by decide +kernel
theorem dX10_init_398 : decode cX10_init 398 = .ok (.bipush 110, 2) := by decide +kernel
theorem dX10_init_400 : decode cX10_init 400 = .ok (.iastore, 1) := by decide +kernel
theorem dX10_init_401 : decode cX10_init 401 = .ok (.dup, 1) := by decide +kernel
theorem dX10_init_402 : decode cX10_init 402 = .ok (.bipush 8, 2) := by decide +kernel
theorem dX10_init_404 : decode cX10_init 404 = .ok (.bipush 101, 2) := by decide +kernel
theorem dX10_init_406 : decode cX10_init 406 = .ok (.iastore, 1) := by decide +kernel
theorem dX10_init_407 : decode cX10_init 407 = .ok (.dup, 1) := by decide +kernel
theorem dX10_init_408 : decode cX10_init 408 = .ok (.bipush 9, 2) := by decide +kernel
theorem dX10_init_410 : decode cX10_init 410 = .ok (.bipush 100, 2) := by decide +kernel
theorem dX10_init_412 : decode cX10_init 412 = .ok (.iastore, 1) := by decide +kernel
theorem dX10_init_413 : decode cX10_init 413 = .ok (.dup, 1) := by decide +kernel
theorem dX10_init_414 : decode cX10_init 414 = .ok (.bipush 10, 2) := by decide +kernel
theorem dX10_init_416 : decode cX10_init 416 = .ok (.bipush 102, 2) := by decide +kernel
theorem dX10_init_418 : decode cX10_init 418 = .ok (.iastore, 1) := by decide +kernel
theorem dX10_init_419 : decode cX10_init 419 = .ok (.dup, 1) := by decide +kernel
theorem dX10_init_420 : decode cX10_init 420 = .ok (.bipush 11, 2) := by decide +kernel
theorem dX10_init_422 : decode cX10_init 422 = .ok (.bipush 105, 2) := by decide +kernel
theorem dX10_init_424 : decode cX10_init 424 = .ok (.iastore, 1) := by decide +kernel
theorem dX10_init_425 : decode cX10_init 425 = .ok (.dup, 1) := by decide +kernel
theorem dX10_init_426 : decode cX10_init 426 = .ok (.bipush 12, 2) := by decide +kernel
theorem dX10_init_428 : decode cX10_init 428 = .ok (.bipush 110, 2) := by decide +kernel
theorem dX10_init_430 : decode cX10_init 430 = .ok (.iastore, 1) := by decide +kernel
theorem dX10_init_431 : decode cX10_init 431 = .ok (.dup, 1) := by decide +kernel
theorem dX10_init_432 : decode cX10_init 432 = .ok (.bipush 13, 2) := by decide +kernel
theorem dX10_init_434 : decode cX10_init 434 = .ok (.bipush 100, 2) := by decide +kernel
theorem dX10_init_436 : decode cX10_init 436 = .ok (.iastore, 1) := by decide +kernel
theorem dX10_init_437 : decode cX10_init 437 = .ok (.dup, 1) := by decide +kernel
theorem dX10_init_438 : decode cX10_init 438 = .ok (.bipush 14, 2) := by decide +kernel
theorem dX10_init_440 : decode cX10_init 440 = .ok (.bipush 95, 2) := by decide +kernel
theorem dX10_init_442 : decode cX10_init 442 = .ok (.iastore, 1) := by decide +kernel
theorem dX10_init_443 : decode cX10_init 443 = .ok (.dup, 1) := by decide +kernel
theorem dX10_init_444 : decode cX10_init 444 = .ok (.bipush 15, 2) := by decide +kernel
theorem dX10_init_446 : decode cX10_init 446 = .ok (.bipush 79, 2) := by decide +kernel
theorem dX10_init_448 : decode cX10_init 448 = .ok (.iastore, 1) := by decide +kernel
theorem dX10_init_449 : decode cX10_init 449 = .ok (.dup, 1) := by decide +kernel
theorem dX10_init_450 : decode cX10_init 450 = .ok (.bipush 16, 2) := by decide +kernel
theorem dX10_init_452 : decode cX10_init 452 = .ok (.bipush 102, 2) := by decide +kernel
theorem dX10_init_454 : decode cX10_init 454 = .ok (.iastore, 1) := by decide +kernel
theorem dX10_init_455 : decode cX10_init 455 = .ok (.dup, 1) := by decide +kernel
theorem dX10_init_456 : decode cX10_init 456 = .ok (.bipush 17, 2) := by decide +kernel
theorem dX10_init_458 : decode cX10_init 458 = .ok (.bipush 112, 2) := by decide +kernel
theorem dX10_init_460 : decode cX10_init 460 = .ok (.iastore, 1) := by decide +kernel
theorem dX10_init_461 : decode cX10_init 461 = .ok (.dup, 1) := by decide +kernel
theorem dX10_init_462 : decode cX10_init 462 = .ok (.bipush 18, 2) := by decide +kernel
theorem dX10_init_464 : decode cX10_init 464 = .ok (.bipush 111, 2) := by decide +kernel
theorem dX10_init_466 : decode cX10_init 466 = .ok (.iastore, 1) := by decide +kernel
theorem dX10_init_467 : decode cX10_init 467 = .ok (.dup, 1) := by decide +kernel
theorem dX10_init_468 : decode cX10_init 468 = .ok (.bipush 19, 2) := by decide +kernel
theorem dX10_init_470 : decode cX10_init 470 = .ok (.bipush 111, 2) := by decide +kernel
theorem dX10_init_472 : decode cX10_init 472 = .ok (.iastore, 1) := by decide +kernel
theorem dX10_init_473 : decode cX10_init 473 = .ok (.dup, 1) := by decide +kernel
theorem dX10_init_474 : decode cX10_init 474 = .ok (.bipush 20, 2) := by decide +kernel
theorem dX10_init_476 : decode cX10_init 476 = .ok (.bipush 102, 2) := by decide +kernel
theorem dX10_init_478 : decode cX10_init 478 = .ok (.iastore, 1) := by decide +kernel
theorem dX10_init_479 : decode cX10_init 479 = .ok (.putfield 90, 3) := by decide +kernel
theorem dX10_init_482 : decode cX10_init 482 = .ok (.aload_n 0, 1) := by decide +kernel
theorem dX10_init_483 : decode cX10_init 483 = .ok (.bipush 6, 2) := by decide +kernel
theorem dX10_init_485 : decode cX10_init 485 = .ok (.newarray .int, 2) := by decide +kernel
theorem dX10_init_487 : decode cX10_init 487 = .ok (.dup, 1) := by decide +kernel
theorem dX10_init_488 : decode cX10_init 488 = .ok (.iconst 0, 1) := by decide +kernel
theorem dX10_init_489 : decode cX10_init 489 = .ok (.bipush 8, 2) := by decide +kernel
theorem dX10_init_491 : decode cX10_init 491 = .ok (.iastore, 1) := by decide +kernel
theorem dX10_init_492 : decode cX10_init 492 = .ok (.dup, 1) := by decide +kernel
theorem dX10_init_493 : decode cX10_init 493 = .ok (.iconst 1, 1) := by decide +kernel
theorem dX10_init_494 : decode cX10_init 494 = .ok (.bipush 9, 2) := by decide +kernel
theorem dX10_init_496 : decode cX10_init 496 = .ok (.iastore, 1) := by decide +kernel
theorem dX10_init_497 : decode cX10_init 497 = .ok (.dup, 1) := by decide +kernel
theorem dX10_init_498 : decode cX10_init 498 = .ok (.iconst 2, 1) := by decide +kernel
theorem dX10_init_499 : decode cX10_init 499 = .ok (.bipush 9, 2) := by decide +kernel
theorem dX10_init_501 : decode cX10_init 501 = .ok (.iastore, 1) := by decide +kernel
theorem dX10_init_502 : decode cX10_init 502 = .ok (.dup, 1) := by decide +kernel
theorem dX10_init_503 : decode cX10_init 503 = .ok (.iconst 3, 1) := by decide +kernel
theorem dX10_init_504 : decode cX10_init 504 = .ok (.bipush 10, 2) := by decide +kernel
theorem dX10_init_506 : decode cX10_init 506 = .ok (.iastore, 1) := by decide +kernel
theorem dX10_init_507 : decode cX10_init 507 = .ok (.dup, 1) := by decide +kernel
theorem dX10_init_508 : decode cX10_init 508 = .ok (.iconst 4, 1) := by decide +kernel
theorem dX10_init_509 : decode cX10_init 509 = .ok (.bipush 7, 2) := by decide +kernel
theorem dX10_init_511 : decode cX10_init 511 = .ok (.iastore, 1) := by decide +kernel
theorem dX10_init_512 : decode cX10_init 512 = .ok (.dup, 1) := by decide +kernel
theorem dX10_init_513 : decode cX10_init 513 = .ok (.iconst 5, 1) := by decide +kernel
theorem dX10_init_514 : decode cX10_init 514 = .ok (.iconst 4, 1) := by decide +kernel
theorem dX10_init_515 : decode cX10_init 515 = .ok (.iastore, 1) := by decide +kernel
theorem dX10_init_516 : decode cX10_init 516 = .ok (.putfield 93, 3) := by decide +kernel
theorem dX10_init_519 : decode cX10_init 519 = .ok (.aload_n 0, 1) := by decide +kernel
theorem dX10_init_520 : decode cX10_init 520 = .ok (.bipush 6, 2) := by decide +kernel
theorem dX10_init_522 : decode cX10_init 522 = .ok (.newarray .int, 2) := by decide +kernel
theorem dX10_init_524 : decode cX10_init 524 = .ok (.dup, 1) := by decide +kernel
theorem dX10_init_525 : decode cX10_init 525 = .ok (.iconst 0, 1) := by decide +kernel
theorem dX10_init_526 : decode cX10_init 526 = .ok (.iconst 0, 1) := by decide +kernel
theorem dX10_init_527 : decode cX10_init 527 = .ok (.iastore, 1) := by decide +kernel
theorem dX10_init_528 : decode cX10_init 528 = .ok (.dup, 1) := by decide +kernel
theorem dX10_init_529 : decode cX10_init 529 = .ok (.iconst 1, 1) := by decide +kernel
theorem dX10_init_530 : decode cX10_init 530 = .ok (.iconst 0, 1) := by decide +kernel
theorem dX10_init_531 : decode cX10_init 531 = .ok (.iastore, 1) := by decide +kernel
theorem dX10_init_532 : decode cX10_init 532 = .ok (.dup, 1) := by decide +kernel
theorem dX10_init_533 : decode cX10_init 533 = .ok (.iconst 2, 1) := by decide +kernel
theorem dX10_init_534 : decode cX10_init 534 = .ok (.iconst 1, 1) := by decide +kernel
theorem dX10_init_535 : decode cX10_init 535 = .ok (.iastore, 1) := by decide +kernel
theorem dX10_init_536 : decode cX10_init 536 = .ok (.dup, 1) := by decide +kernel
theorem dX10_init_537 : decode cX10_init 537 = .ok (.iconst 3, 1) := by decide +kernel
theorem dX10_init_538 : decode cX10_init 538 = .ok (.iconst 2, 1) := by decide +kernel
theorem dX10_init_539 : decode cX10_init 539 = .ok (.iastore, 1) := by decide +kernel
theorem dX10_init_540 : decode cX10_init 540 = .ok (.dup, 1) := by decide +kernel
theorem dX10_init_541 : decode cX10_init 541 = .ok (.iconst 4, 1) := by decide +kernel
theorem dX10_init_542 : decode cX10_init 542 = .ok (.iconst 3, 1) := by decide +kernel
theorem dX10_init_543 : decode cX10_init 543 = .ok (.iastore, 1) := by decide +kernel
theorem dX10_init_544 : decode cX10_init 544 = .ok (.dup, 1) := by decide +kernel
theorem dX10_init_545 : decode cX10_init 545 = .ok (.iconst 5, 1) := by decide +kernel
theorem dX10_init_546 : decode cX10_init 546 = .ok (.iconst 0, 1) := by decide +kernel
theorem dX10_init_547 : decode cX10_init 547 = .ok (.iastore, 1) := by decide +kernel
theorem dX10_init_548 : decode cX10_init 548 = .ok (.putfield 96, 3) := by decide +kernel
theorem dX10_init_551 : decode cX10_init 551 = .ok (.iconst 0, 1) := by decide +kernel
theorem dX10_init_552 : decode cX10_init 552 = .ok (.istore_n 1, 1) := by decide +kernel
theorem dX10_init_553 : decode cX10_init 553 = .ok (.iconst 0, 1) := by decide +kernel
theorem dX10_init_554 : decode cX10_init 554 = .ok (.istore_n 2, 1) := by decide +kernel
theorem dX10_init_555 : decode cX10_init 555 = .ok (.iload_n 2, 1) := by decide +kernel
theorem dX10_init_556 : decode cX10_init 556 = .ok (.bipush 6, 2) := by decide +kernel
theorem dX10_init_558 : decode cX10_init 558 = .ok (.if_icmp .ge 96, 3) := by decide +kernel
theorem dX10_init_561 : decode cX10_init 561 = .ok (.aload_n 0, 1) := by decide +kernel
theorem dX10_init_562 : decode cX10_init 562 = .ok (.getfield 16, 3) := by decide +kernel
theorem dX10_init_565 : decode cX10_init 565 = .ok (.iload_n 2, 1) := by decide +kernel
theorem dX10_init_566 : decode cX10_init 566 = .ok (.aload_n 0, 1) := by decide +kernel
theorem dX10_init_567 : decode cX10_init 567 = .ok (.getfield 93, 3) := by decide +kernel
theorem dX10_init_570 : decode cX10_init 570 = .ok (.iload_n 2, 1) := by decide +kernel
theorem dX10_init_571 : decode cX10_init 571 = .ok (.iaload, 1) := by decide +kernel
theorem dX10_init_572 : decode cX10_init 572 = .ok (.iastore, 1) := by decide +kernel
theorem dX10_init_573 : decode cX10_init 573 = .ok (.aload_n 0, 1) := by decide +kernel
theorem dX10_init_574 : decode cX10_init 574 = .ok (.getfield 19, 3) := by decide +kernel
theorem dX10_init_577 : decode cX10_init 577 = .ok (.iload_n 2, 1) := by decide +kernel
theorem dX10_init_578 : decode cX10_init 578 = .ok (.aload_n 0, 1) := by decide +kernel
theorem dX10_init_579 : decode cX10_init 579 = .ok (.getfield 96, 3) := by decide +kernel
theorem dX10_init_582 : decode cX10_init 582 = .ok (.iload_n 2, 1) := by decide +kernel
theorem dX10_init_583 : decode cX10_init 583 = .ok (.iaload, 1) := by decide +kernel
theorem dX10_init_584 : decode cX10_init 584 = .ok (.iastore, 1) := by decide +kernel
theorem dX10_init_585 : decode cX10_init 585 = .ok (.aload_n 0, 1) := by decide +kernel
theorem dX10_init_586 : decode cX10_init 586 = .ok (.getfield 22, 3) := by decide +kernel
theorem dX10_init_589 : decode cX10_init 589 = .ok (.iload_n 2, 1) := by decide +kernel
theorem dX10_init_590 : decode cX10_init 590 = .ok (.iload_n 2, 1) := by decide +kernel
theorem dX10_init_591 : decode cX10_init 591 = .ok (.iastore, 1) := by decide +kernel
theorem dX10_init_592 : decode cX10_init 592 = .ok (.iconst 0, 1) := by decide +kernel
theorem dX10_init_593 : decode cX10_init 593 = .ok (.istore_n 3, 1) := by decide +kernel
theorem dX10_init_594 : decode cX10_init 594 = .ok (.iload_n 3, 1) := by decide +kernel
theorem dX10_init_595 : decode cX10_init 595 = .ok (.aload_n 0, 1) := by decide +kernel
theorem dX10_init_596 : decode cX10_init 596 = .ok (.getfield 16, 3) := by decide +kernel
theorem dX10_init_599 : decode cX10_init 599 = .ok (.iload_n 2, 1) := by decide +kernel
theorem dX10_init_600 : decode cX10_init 600 = .ok (.iaload, 1) := by decide +kernel
theorem dX10_init_601 : decode cX10_init 601 = .ok (.if_icmp .ge 47, 3) := by decide +kernel
theorem dX10_init_604 : decode cX10_init 604 = .ok (.aload_n 0, 1) := by decide +kernel
theorem dX10_init_605 : decode cX10_init 605 = .ok (.getfield 13, 3) := by decide +kernel
theorem dX10_init_608 : decode cX10_init 608 = .ok (.bipush 12, 2) := by decide +kernel
theorem dX10_init_610 : decode cX10_init 610 = .ok (.iload_n 2, 1) := by decide +kernel
theorem dX10_init_611 : decode cX10_init 611 = .ok (.imul, 1) := by decide +kernel
theorem dX10_init_612 : decode cX10_init 612 = .ok (.iload_n 3, 1) := by decide +kernel
theorem dX10_init_613 : decode cX10_init 613 = .ok (.iadd, 1) := by decide +kernel
theorem dX10_init_614 : decode cX10_init 614 = .ok (.iload_n 1, 1) := by decide +kernel
theorem dX10_init_615 : decode cX10_init 615 = .ok (.bipush 26, 2) := by decide +kernel
theorem dX10_init_617 : decode cX10_init 617 = .ok (.if_icmp .ge 12, 3) := by decide +kernel
theorem dX10_init_620 : decode cX10_init 620 = .ok (.aload_n 0, 1) := by decide +kernel
theorem dX10_init_621 : decode cX10_init 621 = .ok (.getfield 87, 3) := by decide +kernel
theorem dX10_init_624 : decode cX10_init 624 = .ok (.iload_n 1, 1) := by decide +kernel
theorem dX10_init_625 : decode cX10_init 625 = .ok (.iaload, 1) := by decide +kernel
theorem dX10_init_626 : decode cX10_init 626 = .ok (.goto 12, 3) := by decide +kernel
theorem dX10_init_629 : decode cX10_init 629 = .ok (.aload_n 0, 1) := by decide +kernel
theorem dX10_init_630 : decode cX10_init 630 = .ok (.getfield 90, 3) := by decide +kernel
theorem dX10_init_633 : decode cX10_init 633 = .ok (.iload_n 1, 1) := by decide +kernel
theorem dX10_init_634 : decode cX10_init 634 = .ok (.bipush 26, 2) := by decide +kernel
theorem dX10_init_636 : decode cX10_init 636 = .ok (.isub, 1) := by decide +kernel
theorem dX10_init_637 : decode cX10_init 637 = .ok (.iaload, 1) := by decide +kernel
theorem dX10_init_638 : decode cX10_init 638 = .ok (.iastore, 1) := by decide +kernel
theorem dX10_init_639 : decode cX10_init 639 = .ok (.iinc 1 1, 3) := by decide +kernel
theorem dX10_init_642 : decode cX10_init 642 = .ok (.iinc 3 1, 3) := by decide +kernel
theorem dX10_init_645 : decode cX10_init 645 = .ok (.goto (-51), 3) := by decide +kernel
theorem dX10_init_648 : decode cX10_init 648 = .ok (.iinc 2 1, 3) := by decide +kernel
theorem dX10_init_651 : decode cX10_init 651 = .ok (.goto (-96), 3) := by decide +kernel
theorem dX10_init_654 : decode cX10_init 654 = .ok (.aload_n 0, 1) := by decide +kernel
theorem dX10_init_655 : decode cX10_init 655 = .ok (.bipush 6, 2) := by decide +kernel
theorem dX10_init_657 : decode cX10_init 657 = .ok (.putfield 99, 3) := by decide +kernel
theorem dX10_init_660 : decode cX10_init 660 = .ok (.aload_n 0, 1) := by decide +kernel
theorem dX10_init_661 : decode cX10_init 661 = .ok (.bipush 6, 2) := by decide +kernel
theorem dX10_init_663 : decode cX10_init 663 = .ok (.putfield 102, 3) := by decide +kernel
theorem dX10_init_666 : decode cX10_init 666 = .ok (.aload_n 0, 1) := by decide +kernel
theorem dX10_init_667 : decode cX10_init 667 = .ok (.getfield 28, 3) := by decide +kernel
theorem dX10_init_670 : decode cX10_init 670 = .ok (.iconst 0, 1) := by decide +kernel
theorem dX10_init_671 : decode cX10_init 671 = .ok (.iconst 4, 1) := by decide +kernel
theorem dX10_init_672 : decode cX10_init 672 = .ok (.iastore, 1) := by decide +kernel
theorem dX10_init_673 : decode cX10_init 673 = .ok (.aload_n 0, 1) := by decide +kernel
theorem dX10_init_674 : decode cX10_init 674 = .ok (.getfield 28, 3) := by decide +kernel
theorem dX10_init_677 : decode cX10_init 677 = .ok (.iconst 1, 1) := by decide +kernel
theorem dX10_init_678 : decode cX10_init 678 = .ok (.iconst 3, 1) := by decide +kernel
theorem dX10_init_679 : decode cX10_init 679 = .ok (.iastore, 1) := by decide +kernel
theorem dX10_init_680 : decode cX10_init 680 = .ok (.aload_n 0, 1) := by decide +kernel
theorem dX10_init_681 : decode cX10_init 681 = .ok (.getfield 28, 3) := by decide +kernel
theorem dX10_init_684 : decode cX10_init 684 = .ok (.iconst 2, 1) := by decide +kernel
theorem dX10_init_685 : decode cX10_init 685 = .ok (.iconst 1, 1) := by decide +kernel
theorem dX10_init_686 : decode cX10_init 686 = .ok (.iastore, 1) := by decide +kernel
theorem dX10_init_687 : decode cX10_init 687 = .ok (.iconst 0, 1) := by decide +kernel
theorem dX10_init_688 : decode cX10_init 688 = .ok (.istore_n 2, 1) := by decide +kernel
theorem dX10_init_689 : decode cX10_init 689 = .ok (.iload_n 2, 1) := by decide +kernel
theorem dX10_init_690 : decode cX10_init 690 = .ok (.bipush 32, 2) := by decide +kernel
theorem dX10_init_692 : decode cX10_init 692 = .ok (.if_icmp .ge 16, 3) := by decide +kernel
theorem dX10_init_695 : decode cX10_init 695 = .ok (.aload_n 0, 1) := by decide +kernel
theorem dX10_init_696 : decode cX10_init 696 = .ok (.getfield 63, 3) := by decide +kernel
theorem dX10_init_699 : decode cX10_init 699 = .ok (.iload_n 2, 1) := by decide +kernel
theorem dX10_init_700 : decode cX10_init 700 = .ok (.iconst (-1), 1) := by decide +kernel
theorem dX10_init_701 : decode cX10_init 701 = .ok (.iastore, 1) := by decide +kernel
theorem dX10_init_702 : decode cX10_init 702 = .ok (.iinc 2 1, 3) := by decide +kernel
theorem dX10_init_705 : decode cX10_init 705 = .ok (.goto (-16), 3) := by decide +kernel
theorem dX10_init_708 : decode cX10_init 708 = .ok (.return_, 1) := by decide +kernel
theorem dX10_isSmall_0 : decode cX10_isSmall 0 = .ok (.iload_n 0, 1) := by decide +kernel
theorem dX10_isSmall_1 : decode cX10_isSmall 1 = .ok (.bipush 97, 2) := by decide +kernel
theorem dX10_isSmall_3 : decode cX10_isSmall 3 = .ok (.if_icmp .lt 13, 3) := by decide +kernel
theorem dX10_isSmall_6 : decode cX10_isSmall 6 = .ok (.iload_n 0, 1) := by decide +kernel
theorem dX10_isSmall_7 : decode cX10_isSmall 7 = .ok (.bipush 122, 2) := by decide +kernel
theorem dX10_isSmall_9 : decode cX10_isSmall 9 = .ok (.if_icmp .gt 7, 3) := by decide +kernel
theorem dX10_isSmall_12 : decode cX10_isSmall 12 = .ok (.iconst 1, 1) := by decide +kernel
theorem dX10_isSmall_13 : decode cX10_isSmall 13 = .ok (.goto 4, 3) := by decide +kernel
theorem dX10_isSmall_16 : decode cX10_isSmall 16 = .ok (.iconst 0, 1) := by decide +kernel
theorem dX10_isSmall_17 : decode cX10_isSmall 17 = .ok (.ireturn, 1) := by decide +kernel
theorem dX10_isGreat_0 : decode cX10_isGreat 0 = .ok (.iload_n 0, 1) := by decide +kernel
theorem dX10_isGreat_1 : decode cX10_isGreat 1 = .ok (.bipush 65, 2) := by decide +kernel
theorem dX10_isGreat_3 : decode cX10_isGreat 3 = .ok (.if_icmp .lt 13, 3) := by decide +kernel
theorem dX10_isGreat_6 : decode cX10_isGreat 6 = .ok (.iload_n 0, 1) := by decide +kernel
theorem dX10_isGreat_7 : decode cX10_isGreat 7 = .ok (.bipush 90, 2) := by decide +kernel
theorem dX10_isGreat_9 : decode cX10_isGreat 9 = .ok (.if_icmp .gt 7, 3) := by decide +kernel
theorem dX10_isGreat_12 : decode cX10_isGreat 12 = .ok (.iconst 1, 1) := by decide +kernel
theorem dX10_isGreat_13 : decode cX10_isGreat 13 = .ok (.goto 4, 3) := by decide +kernel
theorem dX10_isGreat_16 : decode cX10_isGreat 16 = .ok (.iconst 0, 1) := by decide +kernel
theorem dX10_isGreat_17 : decode cX10_isGreat 17 = .ok (.ireturn, 1) := by decide +kernel
theorem dX10_isSign_0 : decode cX10_isSign 0 = .ok (.iload_n 0, 1) := by decide +kernel
theorem dX10_isSign_1 : decode cX10_isSign 1 = .ok (.invokestatic 105, 3) := by decide +kernel
theorem dX10_isSign_4 : decode cX10_isSign 4 = .ok (.ifCond .ne 16, 3) := by decide +kernel
theorem dX10_isSign_7 : decode cX10_isSign 7 = .ok (.iload_n 0, 1) := by decide +kernel
theorem dX10_isSign_8 : decode cX10_isSign 8 = .ok (.invokestatic 109, 3) := by decide +kernel
theorem dX10_isSign_11 : decode cX10_isSign 11 = .ok (.ifCond .ne 9, 3) := by decide +kernel
theorem dX10_isSign_14 : decode cX10_isSign 14 = .ok (.iload_n 0, 1) := by decide +kernel
theorem dX10_isSign_15 : decode cX10_isSign 15 = .ok (.bipush 95, 2) := by decide +kernel
theorem dX10_isSign_17 : decode cX10_isSign 17 = .ok (.if_icmp .ne 7, 3) := by decide +kernel
theorem dX10_isSign_20 : decode cX10_isSign 20 = .ok (.iconst 1, 1) := by decide +kernel
theorem dX10_isSign_21 : decode cX10_isSign 21 = .ok (.goto 4, 3) := by decide +kernel
theorem dX10_isSign_24 : decode cX10_isSign 24 = .ok (.iconst 0, 1) := by decide +kernel
theorem dX10_isSign_25 : decode cX10_isSign 25 = .ok (.ireturn, 1) := by decide +kernel
theorem dX10_letterAt_0 : decode cX10_letterAt 0 = .ok (.iload_n 1, 1) := by decide +kernel
theorem dX10_letterAt_1 : decode cX10_letterAt 1 = .ok (.aload_n 0, 1) := by decide +kernel
theorem dX10_letterAt_2 : decode cX10_letterAt 2 = .ok (.getfield 112, 3) := by decide +kernel
theorem dX10_letterAt_5 : decode cX10_letterAt 5 = .ok (.if_icmp .ge 12, 3) := by decide +kernel
theorem dX10_letterAt_8 : decode cX10_letterAt 8 = .ok (.aload_n 0, 1) := by decide +kernel
theorem dX10_letterAt_9 : decode cX10_letterAt 9 = .ok (.getfield 7, 3) := by decide +kernel
theorem dX10_letterAt_12 : decode cX10_letterAt 12 = .ok (.iload_n 1, 1) := by decide +kernel
theorem dX10_letterAt_13 : decode cX10_letterAt 13 = .ok (.iaload, 1) := by decide +kernel
theorem dX10_letterAt_14 : decode cX10_letterAt 14 = .ok (.goto 4, 3) := by decide +kernel
theorem dX10_letterAt_17 : decode cX10_letterAt 17 = .ok (.iconst 0, 1) := by decide +kernel
theorem dX10_letterAt_18 : decode cX10_letterAt 18 = .ok (.ireturn, 1) := by decide +kernel
theorem dX10_isFigure_0 : decode cX10_isFigure 0 = .ok (.aload_n 0, 1) := by decide +kernel
theorem dX10_isFigure_1 : decode cX10_isFigure 1 = .ok (.iload_n 1, 1) := by decide +kernel
theorem dX10_isFigure_2 : decode cX10_isFigure 2 = .ok (.invokevirtual 115, 3) := by decide +kernel
theorem dX10_isFigure_5 : decode cX10_isFigure 5 = .ok (.bipush 48, 2) := by decide +kernel
theorem dX10_isFigure_7 : decode cX10_isFigure 7 = .ok (.if_icmp .lt 19, 3) := by decide +kernel
theorem dX10_isFigure_10 : decode cX10_isFigure 10 = .ok (.aload_n 0, 1) := by decide +kernel
theorem dX10_isFigure_11 : decode cX10_isFigure 11 = .ok (.iload_n 1, 1) := by decide +kernel
theorem dX10_isFigure_12 : decode cX10_isFigure 12 = .ok (.invokevirtual 115, 3) := by decide +kernel
theorem dX10_isFigure_15 : decode cX10_isFigure 15 = .ok (.bipush 48, 2) := by decide +kernel
theorem dX10_isFigure_17 : decode cX10_isFigure 17 = .ok (.iload_n 2, 1) := by decide +kernel
theorem dX10_isFigure_18 : decode cX10_isFigure 18 = .ok (.iadd, 1) := by decide +kernel
theorem dX10_isFigure_19 : decode cX10_isFigure 19 = .ok (.if_icmp .gt 7, 3) := by decide +kernel
theorem dX10_isFigure_22 : decode cX10_isFigure 22 = .ok (.iconst 1, 1) := by decide +kernel
theorem dX10_isFigure_23 : decode cX10_isFigure 23 = .ok (.goto 4, 3) := by decide +kernel
theorem dX10_isFigure_26 : decode cX10_isFigure 26 = .ok (.iconst 0, 1) := by decide +kernel
theorem dX10_isFigure_27 : decode cX10_isFigure 27 = .ok (.ireturn, 1) := by decide +kernel
theorem dX10_readsName_0 : decode cX10_readsName 0 = .ok (.aload_n 0, 1) := by decide +kernel
theorem dX10_readsName_1 : decode cX10_readsName 1 = .ok (.getfield 119, 3) := by decide +kernel
theorem dX10_readsName_4 : decode cX10_readsName 4 = .ok (.bipush 8, 2) := by decide +kernel
theorem dX10_readsName_6 : decode cX10_readsName 6 = .ok (.if_icmp .eq 26, 3) := by decide +kernel
theorem dX10_readsName_9 : decode cX10_readsName 9 = .ok (.aload_n 0, 1) := by decide +kernel
theorem dX10_readsName_10 : decode cX10_readsName 10 = .ok (.iload_n 1, 1) := by decide +kernel
theorem dX10_readsName_11 : decode cX10_readsName 11 = .ok (.iconst 1, 1) := by decide +kernel
theorem dX10_readsName_12 : decode cX10_readsName 12 = .ok (.iadd, 1) := by decide +kernel
theorem dX10_readsName_13 : decode cX10_readsName 13 = .ok (.iconst 3, 1) := by decide +kernel
theorem dX10_readsName_14 : decode cX10_readsName 14 = .ok (.invokevirtual 122, 3) := by decide +kernel
theorem dX10_readsName_17 : decode cX10_readsName 17 = .ok (.ifCond .eq 15, 3) := by decide +kernel
theorem dX10_readsName_20 : decode cX10_readsName 20 = .ok (.aload_n 0, 1) := by decide +kernel
theorem dX10_readsName_21 : decode cX10_readsName 21 = .ok (.iload_n 1, 1) := by decide +kernel
theorem dX10_readsName_22 : decode cX10_readsName 22 = .ok (.iconst 2, 1) := by decide +kernel
theorem dX10_readsName_23 : decode cX10_readsName 23 = .ok (.iadd, 1) := by decide +kernel
theorem dX10_readsName_24 : decode cX10_readsName 24 = .ok (.invokevirtual 115, 3) := by decide +kernel
theorem dX10_readsName_27 : decode cX10_readsName 27 = .ok (.bipush 44, 2) := by decide +kernel
theorem dX10_readsName_29 : decode cX10_readsName 29 = .ok (.if_icmp .eq 5, 3) := by decide +kernel
theorem dX10_readsName_32 : decode cX10_readsName 32 = .ok (.iconst (-1), 1) := by decide +kernel
theorem dX10_readsName_33 : decode cX10_readsName 33 = .ok (.ireturn, 1) := by decide +kernel
theorem dX10_readsName_34 : decode cX10_readsName 34 = .ok (.iconst 0, 1) := by decide +kernel
theorem dX10_readsName_35 : decode cX10_readsName 35 = .ok (.istore_n 2, 1) := by decide +kernel
theorem dX10_readsName_36 : decode cX10_readsName 36 = .ok (.iload_n 2, 1) := by decide +kernel
theorem dX10_readsName_37 : decode cX10_readsName 37 = .ok (.bipush 13, 2) := by decide +kernel
theorem dX10_readsName_39 : decode cX10_readsName 39 = .ok (.if_icmp .ge 24, 3) := by decide +kernel
theorem dX10_readsName_42 : decode cX10_readsName 42 = .ok (.aload_n 0, 1) := by decide +kernel
theorem dX10_readsName_43 : decode cX10_readsName 43 = .ok (.iload_n 1, 1) := by decide +kernel
theorem dX10_readsName_44 : decode cX10_readsName 44 = .ok (.iconst 3, 1) := by decide +kernel
theorem dX10_readsName_45 : decode cX10_readsName 45 = .ok (.iadd, 1) := by decide +kernel
theorem dX10_readsName_46 : decode cX10_readsName 46 = .ok (.iload_n 2, 1) := by decide +kernel
theorem dX10_readsName_47 : decode cX10_readsName 47 = .ok (.iadd, 1) := by decide +kernel
theorem dX10_readsName_48 : decode cX10_readsName 48 = .ok (.invokevirtual 115, 3) := by decide +kernel
theorem dX10_readsName_51 : decode cX10_readsName 51 = .ok (.invokestatic 126, 3) := by decide +kernel
theorem dX10_readsName_54 : decode cX10_readsName 54 = .ok (.ifCond .eq 9, 3) := by decide +kernel
theorem dX10_readsName_57 : decode cX10_readsName 57 = .ok (.iinc 2 1, 3) := by decide +kernel
theorem dX10_readsName_60 : decode cX10_readsName 60 = .ok (.goto (-24), 3) := by decide +kernel
theorem dX10_readsName_63 : decode cX10_readsName 63 = .ok (.iload_n 2, 1) := by decide +kernel
theorem dX10_readsName_64 : decode cX10_readsName 64 = .ok (.ifCond .eq 23, 3) := by decide +kernel
theorem dX10_readsName_67 : decode cX10_readsName 67 = .ok (.iload_n 2, 1) := by decide +kernel
theorem dX10_readsName_68 : decode cX10_readsName 68 = .ok (.bipush 13, 2) := by decide +kernel
theorem dX10_readsName_70 : decode cX10_readsName 70 = .ok (.if_icmp .eq 17, 3) := by decide +kernel
theorem dX10_readsName_73 : decode cX10_readsName 73 = .ok (.aload_n 0, 1) := by decide +kernel
theorem dX10_readsName_74 : decode cX10_readsName 74 = .ok (.iload_n 1, 1) := by decide +kernel
theorem dX10_readsName_75 : decode cX10_readsName 75 = .ok (.iconst 3, 1) := by decide +kernel
theorem dX10_readsName_76 : decode cX10_readsName 76 = .ok (.iadd, 1) := by decide +kernel
theorem dX10_readsName_77 : decode cX10_readsName 77 = .ok (.iload_n 2, 1) := by decide +kernel
theorem dX10_readsName_78 : decode cX10_readsName 78 = .ok (.iadd, 1) := by decide +kernel
theorem dX10_readsName_79 : decode cX10_readsName 79 = .ok (.invokevirtual 115, 3) := by decide +kernel
theorem dX10_readsName_82 : decode cX10_readsName 82 = .ok (.bipush 59, 2) := by decide +kernel
theorem dX10_readsName_84 : decode cX10_readsName 84 = .ok (.if_icmp .eq 5, 3) := by decide +kernel
theorem dX10_readsName_87 : decode cX10_readsName 87 = .ok (.iconst (-1), 1) := by decide +kernel
theorem dX10_readsName_88 : decode cX10_readsName 88 = .ok (.ireturn, 1) := by decide +kernel
theorem dX10_readsName_89 : decode cX10_readsName 89 = .ok (.iconst 0, 1) := by decide +kernel
theorem dX10_readsName_90 : decode cX10_readsName 90 = .ok (.istore_n 3, 1) := by decide +kernel
theorem dX10_readsName_91 : decode cX10_readsName 91 = .ok (.iload_n 3, 1) := by decide +kernel
theorem dX10_readsName_92 : decode cX10_readsName 92 = .ok (.iload_n 2, 1) := by decide +kernel
theorem dX10_readsName_93 : decode cX10_readsName 93 = .ok (.if_icmp .ge 32, 3) := by decide +kernel
theorem dX10_readsName_96 : decode cX10_readsName 96 = .ok (.aload_n 0, 1) := by decide +kernel
theorem dX10_readsName_97 : decode cX10_readsName 97 = .ok (.getfield 31, 3) := by decide +kernel
theorem dX10_readsName_100 : decode cX10_readsName 100 = .ok (.bipush 12, 2) := by decide +kernel
theorem dX10_readsName_102 : decode cX10_readsName 102 = .ok (.aload_n 0, 1) := by decide +kernel
theorem dX10_readsName_103 : decode cX10_readsName 103 = .ok (.getfield 119, 3) := by decide +kernel
theorem dX10_readsName_106 : decode cX10_readsName 106 = .ok (.imul, 1) := by decide +kernel
theorem dX10_readsName_107 : decode cX10_readsName 107 = .ok (.iload_n 3, 1) := by decide +kernel
theorem dX10_readsName_108 : decode cX10_readsName 108 = .ok (.iadd, 1) := by decide +kernel
theorem dX10_readsName_109 : decode cX10_readsName 109 = .ok (.aload_n 0, 1) := by decide +kernel
theorem dX10_readsName_110 : decode cX10_readsName 110 = .ok (.iload_n 1, 1) := by decide +kernel
theorem dX10_readsName_111 : decode cX10_readsName 111 = .ok (.iconst 3, 1) := by decide +kernel
theorem dX10_readsName_112 : decode cX10_readsName 112 = .ok (.iadd, 1) := by decide +kernel
theorem dX10_readsName_113 : decode cX10_readsName 113 = .ok (.iload_n 3, 1) := by decide +kernel
theorem dX10_readsName_114 : decode cX10_readsName 114 = .ok (.iadd, 1) := by decide +kernel
theorem dX10_readsName_115 : decode cX10_readsName 115 = .ok (.invokevirtual 115, 3) := by decide +kernel
theorem dX10_readsName_118 : decode cX10_readsName 118 = .ok (.iastore, 1) := by decide +kernel
theorem dX10_readsName_119 : decode cX10_readsName 119 = .ok (.iinc 3 1, 3) := by decide +kernel
theorem dX10_readsName_122 : decode cX10_readsName 122 = .ok (.goto (-31), 3) := by decide +kernel
theorem dX10_readsName_125 : decode cX10_readsName 125 = .ok (.aload_n 0, 1) := by decide +kernel
theorem dX10_readsName_126 : decode cX10_readsName 126 = .ok (.getfield 37, 3) := by decide +kernel
theorem dX10_readsName_129 : decode cX10_readsName 129 = .ok (.aload_n 0, 1) := by decide +kernel
theorem dX10_readsName_130 : decode cX10_readsName 130 = .ok (.getfield 119, 3) := by decide +kernel
theorem dX10_readsName_133 : decode cX10_readsName 133 = .ok (.aload_n 0, 1) := by decide +kernel
theorem dX10_readsName_134 : decode cX10_readsName 134 = .ok (.iload_n 1, 1) := by decide +kernel
theorem dX10_readsName_135 : decode cX10_readsName 135 = .ok (.iconst 1, 1) := by decide +kernel
theorem dX10_readsName_136 : decode cX10_readsName 136 = .ok (.iadd, 1) := by decide +kernel
theorem dX10_readsName_137 : decode cX10_readsName 137 = .ok (.invokevirtual 115, 3) := by decide +kernel
theorem dX10_readsName_140 : decode cX10_readsName 140 = .ok (.bipush 48, 2) := by decide +kernel
theorem dX10_readsName_142 : decode cX10_readsName 142 = .ok (.isub, 1) := by decide +kernel
theorem dX10_readsName_143 : decode cX10_readsName 143 = .ok (.iastore, 1) := by decide +kernel
theorem dX10_readsName_144 : decode cX10_readsName 144 = .ok (.aload_n 0, 1) := by decide +kernel
theorem dX10_readsName_145 : decode cX10_readsName 145 = .ok (.getfield 34, 3) := by decide +kernel
theorem dX10_readsName_148 : decode cX10_readsName 148 = .ok (.aload_n 0, 1) := by decide +kernel
theorem dX10_readsName_149 : decode cX10_readsName 149 = .ok (.getfield 119, 3) := by decide +kernel
theorem dX10_readsName_152 : decode cX10_readsName 152 = .ok (.iload_n 2, 1) := by decide +kernel
theorem dX10_readsName_153 : decode cX10_readsName 153 = .ok (.iastore, 1) := by decide +kernel
theorem dX10_readsName_154 : decode cX10_readsName 154 = .ok (.aload_n 0, 1) := by decide +kernel
theorem dX10_readsName_155 : decode cX10_readsName 155 = .ok (.dup, 1) := by decide +kernel
theorem dX10_readsName_156 : decode cX10_readsName 156 = .ok (.getfield 119, 3) := by decide +kernel
theorem dX10_readsName_159 : decode cX10_readsName 159 = .ok (.iconst 1, 1) := by decide +kernel
theorem dX10_readsName_160 : decode cX10_readsName 160 = .ok (.iadd, 1) := by decide +kernel
theorem dX10_readsName_161 : decode cX10_readsName 161 = .ok (.putfield 119, 3) := by decide +kernel
theorem dX10_readsName_164 : decode cX10_readsName 164 = .ok (.iload_n 1, 1) := by decide +kernel
theorem dX10_readsName_165 : decode cX10_readsName 165 = .ok (.iconst 4, 1) := by decide +kernel
theorem dX10_readsName_166 : decode cX10_readsName 166 = .ok (.iadd, 1) := by decide +kernel
theorem dX10_readsName_167 : decode cX10_readsName 167 = .ok (.iload_n 2, 1) := by decide +kernel
theorem dX10_readsName_168 : decode cX10_readsName 168 = .ok (.iadd, 1) := by decide +kernel
theorem dX10_readsName_169 : decode cX10_readsName 169 = .ok (.ireturn, 1) := by decide +kernel
theorem dX10_readsWorths_0 : decode cX10_readsWorths 0 = .ok (.iconst 0, 1) := by decide +kernel
theorem dX10_readsWorths_1 : decode cX10_readsWorths 1 = .ok (.istore_n 2, 1) := by decide +kernel
theorem dX10_readsWorths_2 : decode cX10_readsWorths 2 = .ok (.iload_n 2, 1) := by decide +kernel
theorem dX10_readsWorths_3 : decode cX10_readsWorths 3 = .ok (.iconst 3, 1) := by decide +kernel
theorem dX10_readsWorths_4 : decode cX10_readsWorths 4 = .ok (.if_icmp .ge 53, 3) := by decide +kernel
theorem dX10_readsWorths_7 : decode cX10_readsWorths 7 = .ok (.aload_n 0, 1) := by decide +kernel
theorem dX10_readsWorths_8 : decode cX10_readsWorths 8 = .ok (.iload_n 1, 1) := by decide +kernel
theorem dX10_readsWorths_9 : decode cX10_readsWorths 9 = .ok (.iconst 1, 1) := by decide +kernel
theorem dX10_readsWorths_10 : decode cX10_readsWorths 10 = .ok (.iadd, 1) := by decide +kernel
theorem dX10_readsWorths_11 : decode cX10_readsWorths 11 = .ok (.iconst 2, 1) := by decide +kernel
theorem dX10_readsWorths_12 : decode cX10_readsWorths 12 = .ok (.iload_n 2, 1) := by decide +kernel
theorem dX10_readsWorths_13 : decode cX10_readsWorths 13 = .ok (.imul, 1) := by decide +kernel
theorem dX10_readsWorths_14 : decode cX10_readsWorths 14 = .ok (.iadd, 1) := by decide +kernel
theorem dX10_readsWorths_15 : decode cX10_readsWorths 15 = .ok (.bipush 9, 2) := by decide +kernel
theorem dX10_readsWorths_17 : decode cX10_readsWorths 17 = .ok (.invokevirtual 122, 3) := by decide +kernel
theorem dX10_readsWorths_20 : decode cX10_readsWorths 20 = .ok (.ifCond .eq 29, 3) := by decide +kernel
theorem dX10_readsWorths_23 : decode cX10_readsWorths 23 = .ok (.aload_n 0, 1) := by decide +kernel
theorem dX10_readsWorths_24 : decode cX10_readsWorths 24 = .ok (.iload_n 1, 1) := by decide +kernel
theorem dX10_readsWorths_25 : decode cX10_readsWorths 25 = .ok (.iconst 2, 1) := by decide +kernel
theorem dX10_readsWorths_26 : decode cX10_readsWorths 26 = .ok (.iadd, 1) := by decide +kernel
theorem dX10_readsWorths_27 : decode cX10_readsWorths 27 = .ok (.iconst 2, 1) := by decide +kernel
theorem dX10_readsWorths_28 : decode cX10_readsWorths 28 = .ok (.iload_n 2, 1) := by decide +kernel
theorem dX10_readsWorths_29 : decode cX10_readsWorths 29 = .ok (.imul, 1) := by decide +kernel
theorem dX10_readsWorths_30 : decode cX10_readsWorths 30 = .ok (.iadd, 1) := by decide +kernel
theorem dX10_readsWorths_31 : decode cX10_readsWorths 31 = .ok (.invokevirtual 115, 3) := by decide +kernel
theorem dX10_readsWorths_34 : decode cX10_readsWorths 34 = .ok (.iload_n 2, 1) := by decide +kernel
theorem dX10_readsWorths_35 : decode cX10_readsWorths 35 = .ok (.iconst 2, 1) := by decide +kernel
theorem dX10_readsWorths_36 : decode cX10_readsWorths 36 = .ok (.if_icmp .ge 8, 3) := by decide +kernel
theorem dX10_readsWorths_39 : decode cX10_readsWorths 39 = .ok (.bipush 44, 2) := by decide +kernel
theorem dX10_readsWorths_41 : decode cX10_readsWorths 41 = .ok (.goto 5, 3) := by decide +kernel
theorem dX10_readsWorths_44 : decode cX10_readsWorths 44 = .ok (.bipush 59, 2) := by decide +kernel
theorem dX10_readsWorths_46 : decode cX10_readsWorths 46 = .ok (.if_icmp .eq 5, 3) := by decide +kernel
theorem dX10_readsWorths_49 : decode cX10_readsWorths 49 = .ok (.iconst (-1), 1) := by decide +kernel
theorem dX10_readsWorths_50 : decode cX10_readsWorths 50 = .ok (.ireturn, 1) := by decide +kernel
theorem dX10_readsWorths_51 : decode cX10_readsWorths 51 = .ok (.iinc 2 1, 3) := by decide +kernel
theorem dX10_readsWorths_54 : decode cX10_readsWorths 54 = .ok (.goto (-52), 3) := by decide +kernel
theorem dX10_readsWorths_57 : decode cX10_readsWorths 57 = .ok (.iconst 0, 1) := by decide +kernel
theorem dX10_readsWorths_58 : decode cX10_readsWorths 58 = .ok (.istore_n 2, 1) := by decide +kernel
theorem dX10_readsWorths_59 : decode cX10_readsWorths 59 = .ok (.iload_n 2, 1) := by decide +kernel
theorem dX10_readsWorths_60 : decode cX10_readsWorths 60 = .ok (.iconst 3, 1) := by decide +kernel
theorem dX10_readsWorths_61 : decode cX10_readsWorths 61 = .ok (.if_icmp .ge 29, 3) := by decide +kernel
theorem dX10_readsWorths_64 : decode cX10_readsWorths 64 = .ok (.aload_n 0, 1) := by decide +kernel
theorem dX10_readsWorths_65 : decode cX10_readsWorths 65 = .ok (.getfield 40, 3) := by decide +kernel
theorem dX10_readsWorths_68 : decode cX10_readsWorths 68 = .ok (.iload_n 2, 1) := by decide +kernel
theorem dX10_readsWorths_69 : decode cX10_readsWorths 69 = .ok (.aload_n 0, 1) := by decide +kernel
theorem dX10_readsWorths_70 : decode cX10_readsWorths 70 = .ok (.iload_n 1, 1) := by decide +kernel
theorem dX10_readsWorths_71 : decode cX10_readsWorths 71 = .ok (.iconst 1, 1) := by decide +kernel
theorem dX10_readsWorths_72 : decode cX10_readsWorths 72 = .ok (.iadd, 1) := by decide +kernel
theorem dX10_readsWorths_73 : decode cX10_readsWorths 73 = .ok (.iconst 2, 1) := by decide +kernel
theorem dX10_readsWorths_74 : decode cX10_readsWorths 74 = .ok (.iload_n 2, 1) := by decide +kernel
theorem dX10_readsWorths_75 : decode cX10_readsWorths 75 = .ok (.imul, 1) := by decide +kernel
theorem dX10_readsWorths_76 : decode cX10_readsWorths 76 = .ok (.iadd, 1) := by decide +kernel
theorem dX10_readsWorths_77 : decode cX10_readsWorths 77 = .ok (.invokevirtual 115, 3) := by decide +kernel
theorem dX10_readsWorths_80 : decode cX10_readsWorths 80 = .ok (.bipush 48, 2) := by decide +kernel
theorem dX10_readsWorths_82 : decode cX10_readsWorths 82 = .ok (.isub, 1) := by decide +kernel
theorem dX10_readsWorths_83 : decode cX10_readsWorths 83 = .ok (.iastore, 1) := by decide +kernel
theorem dX10_readsWorths_84 : decode cX10_readsWorths 84 = .ok (.iinc 2 1, 3) := by decide +kernel
theorem dX10_readsWorths_87 : decode cX10_readsWorths 87 = .ok (.goto (-28), 3) := by decide +kernel
theorem dX10_readsWorths_90 : decode cX10_readsWorths 90 = .ok (.iload_n 1, 1) := by decide +kernel
theorem dX10_readsWorths_91 : decode cX10_readsWorths 91 = .ok (.bipush 7, 2) := by decide +kernel
theorem dX10_readsWorths_93 : decode cX10_readsWorths 93 = .ok (.iadd, 1) := by decide +kernel
theorem dX10_readsWorths_94 : decode cX10_readsWorths 94 = .ok (.ireturn, 1) := by decide +kernel
theorem dX10_reads_0 : decode cX10_reads 0 = .ok (.aload_n 0, 1) := by decide +kernel
theorem dX10_reads_1 : decode cX10_reads 1 = .ok (.iconst 0, 1) := by decide +kernel
theorem dX10_reads_2 : decode cX10_reads 2 = .ok (.putfield 119, 3) := by decide +kernel
theorem dX10_reads_5 : decode cX10_reads 5 = .ok (.aload_n 0, 1) := by decide +kernel
theorem dX10_reads_6 : decode cX10_reads 6 = .ok (.getfield 40, 3) := by decide +kernel
theorem dX10_reads_9 : decode cX10_reads 9 = .ok (.iconst 0, 1) := by decide +kernel
theorem dX10_reads_10 : decode cX10_reads 10 = .ok (.iconst 3, 1) := by decide +kernel
theorem dX10_reads_11 : decode cX10_reads 11 = .ok (.iastore, 1) := by decide +kernel
theorem dX10_reads_12 : decode cX10_reads 12 = .ok (.aload_n 0, 1) := by decide +kernel
theorem dX10_reads_13 : decode cX10_reads 13 = .ok (.getfield 40, 3) := by decide +kernel
theorem dX10_reads_16 : decode cX10_reads 16 = .ok (.iconst 1, 1) := by decide +kernel
theorem dX10_reads_17 : decode cX10_reads 17 = .ok (.iconst 2, 1) := by decide +kernel
theorem dX10_reads_18 : decode cX10_reads 18 = .ok (.iastore, 1) := by decide +kernel
theorem dX10_reads_19 : decode cX10_reads 19 = .ok (.aload_n 0, 1) := by decide +kernel
theorem dX10_reads_20 : decode cX10_reads 20 = .ok (.getfield 40, 3) := by decide +kernel
theorem dX10_reads_23 : decode cX10_reads 23 = .ok (.iconst 2, 1) := by decide +kernel
theorem dX10_reads_24 : decode cX10_reads 24 = .ok (.iconst 1, 1) := by decide +kernel
theorem dX10_reads_25 : decode cX10_reads 25 = .ok (.iastore, 1) := by decide +kernel
theorem dX10_reads_26 : decode cX10_reads 26 = .ok (.iconst 0, 1) := by decide +kernel
theorem dX10_reads_27 : decode cX10_reads 27 = .ok (.istore_n 1, 1) := by decide +kernel
theorem dX10_reads_28 : decode cX10_reads 28 = .ok (.iload_n 1, 1) := by decide +kernel
theorem dX10_reads_29 : decode cX10_reads 29 = .ok (.aload_n 0, 1) := by decide +kernel
theorem dX10_reads_30 : decode cX10_reads 30 = .ok (.getfield 112, 3) := by decide +kernel
theorem dX10_reads_33 : decode cX10_reads 33 = .ok (.if_icmp .ge 53, 3) := by decide +kernel
theorem dX10_reads_36 : decode cX10_reads 36 = .ok (.iconst (-1), 1) := by decide +kernel
theorem dX10_reads_37 : decode cX10_reads 37 = .ok (.istore_n 2, 1) := by decide +kernel
theorem dX10_reads_38 : decode cX10_reads 38 = .ok (.aload_n 0, 1) := by decide +kernel
theorem dX10_reads_39 : decode cX10_reads 39 = .ok (.getfield 7, 3) := by decide +kernel
theorem dX10_reads_42 : decode cX10_reads 42 = .ok (.iload_n 1, 1) := by decide +kernel
theorem dX10_reads_43 : decode cX10_reads 43 = .ok (.iaload, 1) := by decide +kernel
theorem dX10_reads_44 : decode cX10_reads 44 = .ok (.bipush 115, 2) := by decide +kernel
theorem dX10_reads_46 : decode cX10_reads 46 = .ok (.if_icmp .ne 12, 3) := by decide +kernel
theorem dX10_reads_49 : decode cX10_reads 49 = .ok (.aload_n 0, 1) := by decide +kernel
theorem dX10_reads_50 : decode cX10_reads 50 = .ok (.iload_n 1, 1) := by decide +kernel
theorem dX10_reads_51 : decode cX10_reads 51 = .ok (.invokevirtual 129, 3) := by decide +kernel
theorem dX10_reads_54 : decode cX10_reads 54 = .ok (.istore_n 2, 1) := by decide +kernel
theorem dX10_reads_55 : decode cX10_reads 55 = .ok (.goto 20, 3) := by decide +kernel
theorem dX10_reads_58 : decode cX10_reads 58 = .ok (.aload_n 0, 1) := by decide +kernel
theorem dX10_reads_59 : decode cX10_reads 59 = .ok (.getfield 7, 3) := by decide +kernel
theorem dX10_reads_62 : decode cX10_reads 62 = .ok (.iload_n 1, 1) := by decide +kernel
theorem dX10_reads_63 : decode cX10_reads 63 = .ok (.iaload, 1) := by decide +kernel
theorem dX10_reads_64 : decode cX10_reads 64 = .ok (.bipush 119, 2) := by decide +kernel
theorem dX10_reads_66 : decode cX10_reads 66 = .ok (.if_icmp .ne 9, 3) := by decide +kernel
theorem dX10_reads_69 : decode cX10_reads 69 = .ok (.aload_n 0, 1) := by decide +kernel
theorem dX10_reads_70 : decode cX10_reads 70 = .ok (.iload_n 1, 1) := by decide +kernel
theorem dX10_reads_71 : decode cX10_reads 71 = .ok (.invokevirtual 132, 3) := by decide +kernel
theorem dX10_reads_74 : decode cX10_reads 74 = .ok (.istore_n 2, 1) := by decide +kernel
theorem dX10_reads_75 : decode cX10_reads 75 = .ok (.iload_n 2, 1) := by decide +kernel
theorem dX10_reads_76 : decode cX10_reads 76 = .ok (.ifCond .ge 5, 3) := by decide +kernel
theorem dX10_reads_79 : decode cX10_reads 79 = .ok (.iload_n 1, 1) := by decide +kernel
theorem dX10_reads_80 : decode cX10_reads 80 = .ok (.ireturn, 1) := by decide +kernel
theorem dX10_reads_81 : decode cX10_reads 81 = .ok (.iload_n 2, 1) := by decide +kernel
theorem dX10_reads_82 : decode cX10_reads 82 = .ok (.istore_n 1, 1) := by decide +kernel
theorem dX10_reads_83 : decode cX10_reads 83 = .ok (.goto (-55), 3) := by decide +kernel
theorem dX10_reads_86 : decode cX10_reads 86 = .ok (.bipush (-4), 2) := by decide +kernel
theorem dX10_reads_88 : decode cX10_reads 88 = .ok (.ireturn, 1) := by decide +kernel
theorem dX10_write_0 : decode cX10_write 0 = .ok (.iload_n 1, 1) := by decide +kernel
theorem dX10_write_1 : decode cX10_write 1 = .ok (.bipush 32, 2) := by decide +kernel
theorem dX10_write_3 : decode cX10_write 3 = .ok (.if_icmp .lt 9, 3) := by decide +kernel
theorem dX10_write_6 : decode cX10_write 6 = .ok (.iload_n 1, 1) := by decide +kernel
theorem dX10_write_7 : decode cX10_write 7 = .ok (.bipush 126, 2) := by decide +kernel
theorem dX10_write_9 : decode cX10_write 9 = .ok (.if_icmp .le 5, 3) := by decide +kernel
theorem dX10_write_12 : decode cX10_write 12 = .ok (.iconst (-1), 1) := by decide +kernel
theorem dX10_write_13 : decode cX10_write 13 = .ok (.ireturn, 1) := by decide +kernel
theorem dX10_write_14 : decode cX10_write 14 = .ok (.aload_n 0, 1) := by decide +kernel
theorem dX10_write_15 : decode cX10_write 15 = .ok (.getfield 112, 3) := by decide +kernel
theorem dX10_write_18 : decode cX10_write 18 = .ok (.sipush 200, 3) := by decide +kernel
theorem dX10_write_21 : decode cX10_write 21 = .ok (.if_icmp .ne 6, 3) := by decide +kernel
theorem dX10_write_24 : decode cX10_write 24 = .ok (.bipush (-3), 2) := by decide +kernel
theorem dX10_write_26 : decode cX10_write 26 = .ok (.ireturn, 1) := by decide +kernel
theorem dX10_write_27 : decode cX10_write 27 = .ok (.aload_n 0, 1) := by decide +kernel
theorem dX10_write_28 : decode cX10_write 28 = .ok (.getfield 7, 3) := by decide +kernel
theorem dX10_write_31 : decode cX10_write 31 = .ok (.aload_n 0, 1) := by decide +kernel
theorem dX10_write_32 : decode cX10_write 32 = .ok (.getfield 112, 3) := by decide +kernel
theorem dX10_write_35 : decode cX10_write 35 = .ok (.iload_n 1, 1) := by decide +kernel
theorem dX10_write_36 : decode cX10_write 36 = .ok (.iastore, 1) := by decide +kernel
theorem dX10_write_37 : decode cX10_write 37 = .ok (.aload_n 0, 1) := by decide +kernel
theorem dX10_write_38 : decode cX10_write 38 = .ok (.dup, 1) := by decide +kernel
theorem dX10_write_39 : decode cX10_write 39 = .ok (.getfield 112, 3) := by decide +kernel
theorem dX10_write_42 : decode cX10_write 42 = .ok (.iconst 1, 1) := by decide +kernel
theorem dX10_write_43 : decode cX10_write 43 = .ok (.iadd, 1) := by decide +kernel
theorem dX10_write_44 : decode cX10_write 44 = .ok (.putfield 112, 3) := by decide +kernel
theorem dX10_write_47 : decode cX10_write 47 = .ok (.aload_n 0, 1) := by decide +kernel
theorem dX10_write_48 : decode cX10_write 48 = .ok (.getfield 112, 3) := by decide +kernel
theorem dX10_write_51 : decode cX10_write 51 = .ok (.ireturn, 1) := by decide +kernel
theorem dX10_wipe_0 : decode cX10_wipe 0 = .ok (.aload_n 0, 1) := by decide +kernel
theorem dX10_wipe_1 : decode cX10_wipe 1 = .ok (.getfield 112, 3) := by decide +kernel
theorem dX10_wipe_4 : decode cX10_wipe 4 = .ok (.istore_n 1, 1) := by decide +kernel
theorem dX10_wipe_5 : decode cX10_wipe 5 = .ok (.aload_n 0, 1) := by decide +kernel
theorem dX10_wipe_6 : decode cX10_wipe 6 = .ok (.iconst 0, 1) := by decide +kernel
theorem dX10_wipe_7 : decode cX10_wipe 7 = .ok (.putfield 112, 3) := by decide +kernel
theorem dX10_wipe_10 : decode cX10_wipe 10 = .ok (.iload_n 1, 1) := by decide +kernel
theorem dX10_wipe_11 : decode cX10_wipe 11 = .ok (.ireturn, 1) := by decide +kernel
theorem dX10_fault_0 : decode cX10_fault 0 = .ok (.aload_n 0, 1) := by decide +kernel
theorem dX10_fault_1 : decode cX10_fault 1 = .ok (.invokevirtual 135, 3) := by decide +kernel
theorem dX10_fault_4 : decode cX10_fault 4 = .ok (.ireturn, 1) := by decide +kernel
theorem dX10_lay_0 : decode cX10_lay 0 = .ok (.aload_n 0, 1) := by decide +kernel
theorem dX10_lay_1 : decode cX10_lay 1 = .ok (.invokevirtual 135, 3) := by decide +kernel
theorem dX10_lay_4 : decode cX10_lay 4 = .ok (.bipush (-4), 2) := by decide +kernel
theorem dX10_lay_6 : decode cX10_lay 6 = .ok (.if_icmp .ne 10, 3) := by decide +kernel
theorem dX10_lay_9 : decode cX10_lay 9 = .ok (.aload_n 0, 1) := by decide +kernel
theorem dX10_lay_10 : decode cX10_lay 10 = .ok (.getfield 119, 3) := by decide +kernel
theorem dX10_lay_13 : decode cX10_lay 13 = .ok (.ifCond .ne 6, 3) := by decide +kernel
theorem dX10_lay_16 : decode cX10_lay 16 = .ok (.bipush (-2), 2) := by decide +kernel
theorem dX10_lay_18 : decode cX10_lay 18 = .ok (.ireturn, 1) := by decide +kernel
theorem dX10_lay_19 : decode cX10_lay 19 = .ok (.aload_n 0, 1) := by decide +kernel
theorem dX10_lay_20 : decode cX10_lay 20 = .ok (.aload_n 0, 1) := by decide +kernel
theorem dX10_lay_21 : decode cX10_lay 21 = .ok (.getfield 119, 3) := by decide +kernel
theorem dX10_lay_24 : decode cX10_lay 24 = .ok (.putfield 99, 3) := by decide +kernel
theorem dX10_lay_27 : decode cX10_lay 27 = .ok (.iconst 0, 1) := by decide +kernel
theorem dX10_lay_28 : decode cX10_lay 28 = .ok (.istore_n 1, 1) := by decide +kernel
theorem dX10_lay_29 : decode cX10_lay 29 = .ok (.iload_n 1, 1) := by decide +kernel
theorem dX10_lay_30 : decode cX10_lay 30 = .ok (.aload_n 0, 1) := by decide +kernel
theorem dX10_lay_31 : decode cX10_lay 31 = .ok (.getfield 99, 3) := by decide +kernel
theorem dX10_lay_34 : decode cX10_lay 34 = .ok (.if_icmp .ge 100, 3) := by decide +kernel
theorem dX10_lay_37 : decode cX10_lay 37 = .ok (.aload_n 0, 1) := by decide +kernel
theorem dX10_lay_38 : decode cX10_lay 38 = .ok (.getfield 16, 3) := by decide +kernel
theorem dX10_lay_41 : decode cX10_lay 41 = .ok (.iload_n 1, 1) := by decide +kernel
theorem dX10_lay_42 : decode cX10_lay 42 = .ok (.aload_n 0, 1) := by decide +kernel
theorem dX10_lay_43 : decode cX10_lay 43 = .ok (.getfield 34, 3) := by decide +kernel
theorem dX10_lay_46 : decode cX10_lay 46 = .ok (.iload_n 1, 1) := by decide +kernel
theorem dX10_lay_47 : decode cX10_lay 47 = .ok (.iaload, 1) := by decide +kernel
theorem dX10_lay_48 : decode cX10_lay 48 = .ok (.iastore, 1) := by decide +kernel
theorem dX10_lay_49 : decode cX10_lay 49 = .ok (.aload_n 0, 1) := by decide +kernel
theorem dX10_lay_50 : decode cX10_lay 50 = .ok (.getfield 19, 3) := by decide +kernel
theorem dX10_lay_53 : decode cX10_lay 53 = .ok (.iload_n 1, 1) := by decide +kernel
theorem dX10_lay_54 : decode cX10_lay 54 = .ok (.aload_n 0, 1) := by decide +kernel
theorem dX10_lay_55 : decode cX10_lay 55 = .ok (.getfield 37, 3) := by decide +kernel
theorem dX10_lay_58 : decode cX10_lay 58 = .ok (.iload_n 1, 1) := by decide +kernel
theorem dX10_lay_59 : decode cX10_lay 59 = .ok (.iaload, 1) := by decide +kernel
theorem dX10_lay_60 : decode cX10_lay 60 = .ok (.iastore, 1) := by decide +kernel
theorem dX10_lay_61 : decode cX10_lay 61 = .ok (.aload_n 0, 1) := by decide +kernel
theorem dX10_lay_62 : decode cX10_lay 62 = .ok (.getfield 22, 3) := by decide +kernel
theorem dX10_lay_65 : decode cX10_lay 65 = .ok (.iload_n 1, 1) := by decide +kernel
theorem dX10_lay_66 : decode cX10_lay 66 = .ok (.aload_n 0, 1) := by decide +kernel
theorem dX10_lay_67 : decode cX10_lay 67 = .ok (.getfield 102, 3) := by decide +kernel
theorem dX10_lay_70 : decode cX10_lay 70 = .ok (.iastore, 1) := by decide +kernel
theorem dX10_lay_71 : decode cX10_lay 71 = .ok (.aload_n 0, 1) := by decide +kernel
theorem dX10_lay_72 : decode cX10_lay 72 = .ok (.dup, 1) := by decide +kernel
theorem dX10_lay_73 : decode cX10_lay 73 = .ok (.getfield 102, 3) := by decide +kernel
theorem dX10_lay_76 : decode cX10_lay 76 = .ok (.iconst 1, 1) := by decide +kernel
theorem dX10_lay_77 : decode cX10_lay 77 = .ok (.iadd, 1) := by decide +kernel
theorem dX10_lay_78 : decode cX10_lay 78 = .ok (.putfield 102, 3) := by decide +kernel
theorem dX10_lay_81 : decode cX10_lay 81 = .ok (.aload_n 0, 1) := by decide +kernel
theorem dX10_lay_82 : decode cX10_lay 82 = .ok (.getfield 25, 3) := by decide +kernel
theorem dX10_lay_85 : decode cX10_lay 85 = .ok (.iload_n 1, 1) := by decide +kernel
theorem dX10_lay_86 : decode cX10_lay 86 = .ok (.iconst 0, 1) := by decide +kernel
theorem dX10_lay_87 : decode cX10_lay 87 = .ok (.iastore, 1) := by decide +kernel
theorem dX10_lay_88 : decode cX10_lay 88 = .ok (.iconst 0, 1) := by decide +kernel
theorem dX10_lay_89 : decode cX10_lay 89 = .ok (.istore_n 2, 1) := by decide +kernel
theorem dX10_lay_90 : decode cX10_lay 90 = .ok (.iload_n 2, 1) := by decide +kernel
theorem dX10_lay_91 : decode cX10_lay 91 = .ok (.aload_n 0, 1) := by decide +kernel
theorem dX10_lay_92 : decode cX10_lay 92 = .ok (.getfield 16, 3) := by decide +kernel
theorem dX10_lay_95 : decode cX10_lay 95 = .ok (.iload_n 1, 1) := by decide +kernel
theorem dX10_lay_96 : decode cX10_lay 96 = .ok (.iaload, 1) := by decide +kernel
theorem dX10_lay_97 : decode cX10_lay 97 = .ok (.if_icmp .ge 31, 3) := by decide +kernel
theorem dX10_lay_100 : decode cX10_lay 100 = .ok (.aload_n 0, 1) := by decide +kernel
theorem dX10_lay_101 : decode cX10_lay 101 = .ok (.getfield 13, 3) := by decide +kernel
theorem dX10_lay_104 : decode cX10_lay 104 = .ok (.bipush 12, 2) := by decide +kernel
theorem dX10_lay_106 : decode cX10_lay 106 = .ok (.iload_n 1, 1) := by decide +kernel
theorem dX10_lay_107 : decode cX10_lay 107 = .ok (.imul, 1) := by decide +kernel
theorem dX10_lay_108 : decode cX10_lay 108 = .ok (.iload_n 2, 1) := by decide +kernel
theorem dX10_lay_109 : decode cX10_lay 109 = .ok (.iadd, 1) := by decide +kernel
theorem dX10_lay_110 : decode cX10_lay 110 = .ok (.aload_n 0, 1) := by decide +kernel
theorem dX10_lay_111 : decode cX10_lay 111 = .ok (.getfield 31, 3) := by decide +kernel
theorem dX10_lay_114 : decode cX10_lay 114 = .ok (.bipush 12, 2) := by decide +kernel
theorem dX10_lay_116 : decode cX10_lay 116 = .ok (.iload_n 1, 1) := by decide +kernel
theorem dX10_lay_117 : decode cX10_lay 117 = .ok (.imul, 1) := by decide +kernel
theorem dX10_lay_118 : decode cX10_lay 118 = .ok (.iload_n 2, 1) := by decide +kernel
theorem dX10_lay_119 : decode cX10_lay 119 = .ok (.iadd, 1) := by decide +kernel
theorem dX10_lay_120 : decode cX10_lay 120 = .ok (.iaload, 1) := by decide +kernel
theorem dX10_lay_121 : decode cX10_lay 121 = .ok (.iastore, 1) := by decide +kernel
theorem dX10_lay_122 : decode cX10_lay 122 = .ok (.iinc 2 1, 3) := by decide +kernel
theorem dX10_lay_125 : decode cX10_lay 125 = .ok (.goto (-35), 3) := by decide +kernel
theorem dX10_lay_128 : decode cX10_lay 128 = .ok (.iinc 1 1, 3) := by decide +kernel
theorem dX10_lay_131 : decode cX10_lay 131 = .ok (.goto (-102), 3) := by decide +kernel
theorem dX10_lay_134 : decode cX10_lay 134 = .ok (.iconst 0, 1) := by decide +kernel
theorem dX10_lay_135 : decode cX10_lay 135 = .ok (.istore_n 1, 1) := by decide +kernel
theorem dX10_lay_136 : decode cX10_lay 136 = .ok (.iload_n 1, 1) := by decide +kernel
theorem dX10_lay_137 : decode cX10_lay 137 = .ok (.iconst 3, 1) := by decide +kernel
theorem dX10_lay_138 : decode cX10_lay 138 = .ok (.if_icmp .ge 21, 3) := by decide +kernel
theorem dX10_lay_141 : decode cX10_lay 141 = .ok (.aload_n 0, 1) := by decide +kernel
theorem dX10_lay_142 : decode cX10_lay 142 = .ok (.getfield 28, 3) := by decide +kernel
theorem dX10_lay_145 : decode cX10_lay 145 = .ok (.iload_n 1, 1) := by decide +kernel
theorem dX10_lay_146 : decode cX10_lay 146 = .ok (.aload_n 0, 1) := by decide +kernel
theorem dX10_lay_147 : decode cX10_lay 147 = .ok (.getfield 40, 3) := by decide +kernel
theorem dX10_lay_150 : decode cX10_lay 150 = .ok (.iload_n 1, 1) := by decide +kernel
theorem dX10_lay_151 : decode cX10_lay 151 = .ok (.iaload, 1) := by decide +kernel
theorem dX10_lay_152 : decode cX10_lay 152 = .ok (.iastore, 1) := by decide +kernel
theorem dX10_lay_153 : decode cX10_lay 153 = .ok (.iinc 1 1, 3) := by decide +kernel
theorem dX10_lay_156 : decode cX10_lay 156 = .ok (.goto (-20), 3) := by decide +kernel
theorem dX10_lay_159 : decode cX10_lay 159 = .ok (.aload_n 0, 1) := by decide +kernel
theorem dX10_lay_160 : decode cX10_lay 160 = .ok (.dup, 1) := by decide +kernel
theorem dX10_lay_161 : decode cX10_lay 161 = .ok (.getfield 52, 3) := by decide +kernel
theorem dX10_lay_164 : decode cX10_lay 164 = .ok (.iconst 1, 1) := by decide +kernel
theorem dX10_lay_165 : decode cX10_lay 165 = .ok (.iadd, 1) := by decide +kernel
theorem dX10_lay_166 : decode cX10_lay 166 = .ok (.putfield 52, 3) := by decide +kernel
theorem dX10_lay_169 : decode cX10_lay 169 = .ok (.aload_n 0, 1) := by decide +kernel
theorem dX10_lay_170 : decode cX10_lay 170 = .ok (.iconst 0, 1) := by decide +kernel
theorem dX10_lay_171 : decode cX10_lay 171 = .ok (.putfield 139, 3) := by decide +kernel
theorem dX10_lay_174 : decode cX10_lay 174 = .ok (.aload_n 0, 1) := by decide +kernel
theorem dX10_lay_175 : decode cX10_lay 175 = .ok (.iconst 0, 1) := by decide +kernel
theorem dX10_lay_176 : decode cX10_lay 176 = .ok (.putfield 142, 3) := by decide +kernel
theorem dX10_lay_179 : decode cX10_lay 179 = .ok (.aload_n 0, 1) := by decide +kernel
theorem dX10_lay_180 : decode cX10_lay 180 = .ok (.getfield 99, 3) := by decide +kernel
theorem dX10_lay_183 : decode cX10_lay 183 = .ok (.ireturn, 1) := by decide +kernel
theorem dX10_isName_0 : decode cX10_isName 0 = .ok (.iload_n 1, 1) := by decide +kernel
theorem dX10_isName_1 : decode cX10_isName 1 = .ok (.ifCond .lt 15, 3) := by decide +kernel
theorem dX10_isName_4 : decode cX10_isName 4 = .ok (.iload_n 1, 1) := by decide +kernel
theorem dX10_isName_5 : decode cX10_isName 5 = .ok (.aload_n 0, 1) := by decide +kernel
theorem dX10_isName_6 : decode cX10_isName 6 = .ok (.getfield 99, 3) := by decide +kernel
theorem dX10_isName_9 : decode cX10_isName 9 = .ok (.if_icmp .ge 7, 3) := by decide +kernel
theorem dX10_isName_12 : decode cX10_isName 12 = .ok (.iconst 1, 1) := by decide +kernel
theorem dX10_isName_13 : decode cX10_isName 13 = .ok (.goto 4, 3) := by decide +kernel
theorem dX10_isName_16 : decode cX10_isName 16 = .ok (.iconst 0, 1) := by decide +kernel
theorem dX10_isName_17 : decode cX10_isName 17 = .ok (.ireturn, 1) := by decide +kernel
theorem dX10_isBeginning_0 : decode cX10_isBeginning 0 = .ok (.aload_n 0, 1) := by decide +kernel
theorem dX10_isBeginning_1 : decode cX10_isBeginning 1 = .ok (.getfield 13, 3) := by decide +kernel
theorem dX10_isBeginning_4 : decode cX10_isBeginning 4 = .ok (.bipush 12, 2) := by decide +kernel
theorem dX10_isBeginning_6 : decode cX10_isBeginning 6 = .ok (.iload_n 1, 1) := by decide +kernel
theorem dX10_isBeginning_7 : decode cX10_isBeginning 7 = .ok (.imul, 1) := by decide +kernel
theorem dX10_isBeginning_8 : decode cX10_isBeginning 8 = .ok (.iload_n 2, 1) := by decide +kernel
theorem dX10_isBeginning_9 : decode cX10_isBeginning 9 = .ok (.iadd, 1) := by decide +kernel
theorem dX10_isBeginning_10 : decode cX10_isBeginning 10 = .ok (.iaload, 1) := by decide +kernel
theorem dX10_isBeginning_11 : decode cX10_isBeginning 11 = .ok (.istore_n 3, 1) := by decide +kernel
theorem dX10_isBeginning_12 : decode cX10_isBeginning 12 = .ok (.iload_n 3, 1) := by decide +kernel
theorem dX10_isBeginning_13 : decode cX10_isBeginning 13 = .ok (.bipush 95, 2) := by decide +kernel
theorem dX10_isBeginning_15 : decode cX10_isBeginning 15 = .ok (.if_icmp .ne 5, 3) := by decide +kernel
theorem dX10_isBeginning_18 : decode cX10_isBeginning 18 = .ok (.iconst 0, 1) := by decide +kernel
theorem dX10_isBeginning_19 : decode cX10_isBeginning 19 = .ok (.ireturn, 1) := by decide +kernel
theorem dX10_isBeginning_20 : decode cX10_isBeginning 20 = .ok (.iload_n 2, 1) := by decide +kernel
theorem dX10_isBeginning_21 : decode cX10_isBeginning 21 = .ok (.ifCond .ne 5, 3) := by decide +kernel
theorem dX10_isBeginning_24 : decode cX10_isBeginning 24 = .ok (.iconst 1, 1) := by decide +kernel
theorem dX10_isBeginning_25 : decode cX10_isBeginning 25 = .ok (.ireturn, 1) := by decide +kernel
theorem dX10_isBeginning_26 : decode cX10_isBeginning 26 = .ok (.aload_n 0, 1) := by decide +kernel
theorem dX10_isBeginning_27 : decode cX10_isBeginning 27 = .ok (.getfield 13, 3) := by decide +kernel
theorem dX10_isBeginning_30 : decode cX10_isBeginning 30 = .ok (.bipush 12, 2) := by decide +kernel
theorem dX10_isBeginning_32 : decode cX10_isBeginning 32 = .ok (.iload_n 1, 1) := by decide +kernel
theorem dX10_isBeginning_33 : decode cX10_isBeginning 33 = .ok (.imul, 1) := by decide +kernel
theorem dX10_isBeginning_34 : decode cX10_isBeginning 34 = .ok (.iload_n 2, 1) := by decide +kernel
theorem dX10_isBeginning_35 : decode cX10_isBeginning 35 = .ok (.iadd, 1) := by decide +kernel
theorem dX10_isBeginning_36 : decode cX10_isBeginning 36 = .ok (.iconst 1, 1) := by decide +kernel
theorem dX10_isBeginning_37 : decode cX10_isBeginning 37 = .ok (.isub, 1) := by decide +kernel
theorem dX10_isBeginning_38 : decode cX10_isBeginning 38 = .ok (.iaload, 1) := by decide +kernel
theorem dX10_isBeginning_39 : decode cX10_isBeginning 39 = .ok (.istore 4, 2) := by decide +kernel
theorem dX10_isBeginning_41 : decode cX10_isBeginning 41 = .ok (.iload 4, 2) := by decide +kernel
theorem dX10_isBeginning_43 : decode cX10_isBeginning 43 = .ok (.bipush 95, 2) := by decide +kernel
theorem dX10_isBeginning_45 : decode cX10_isBeginning 45 = .ok (.if_icmp .eq 18, 3) := by decide +kernel
theorem dX10_isBeginning_48 : decode cX10_isBeginning 48 = .ok (.iload_n 3, 1) := by decide +kernel
theorem dX10_isBeginning_49 : decode cX10_isBeginning 49 = .ok (.invokestatic 109, 3) := by decide +kernel
theorem dX10_isBeginning_52 : decode cX10_isBeginning 52 = .ok (.ifCond .eq 15, 3) := by decide +kernel
theorem dX10_isBeginning_55 : decode cX10_isBeginning 55 = .ok (.iload 4, 2) := by decide +kernel
theorem dX10_isBeginning_57 : decode cX10_isBeginning 57 = .ok (.invokestatic 105, 3) := by decide +kernel
theorem dX10_isBeginning_60 : decode cX10_isBeginning 60 = .ok (.ifCond .eq 7, 3) := by decide +kernel
theorem dX10_isBeginning_63 : decode cX10_isBeginning 63 = .ok (.iconst 1, 1) := by decide +kernel
theorem dX10_isBeginning_64 : decode cX10_isBeginning 64 = .ok (.goto 4, 3) := by decide +kernel
theorem dX10_isBeginning_67 : decode cX10_isBeginning 67 = .ok (.iconst 0, 1) := by decide +kernel
theorem dX10_isBeginning_68 : decode cX10_isBeginning 68 = .ok (.ireturn, 1) := by decide +kernel
theorem dX10_name_0 : decode cX10_name 0 = .ok (.aload_n 0, 1) := by decide +kernel
theorem dX10_name_1 : decode cX10_name 1 = .ok (.iload_n 1, 1) := by decide +kernel
theorem dX10_name_2 : decode cX10_name 2 = .ok (.invokevirtual 145, 3) := by decide +kernel
theorem dX10_name_5 : decode cX10_name 5 = .ok (.ifCond .eq 12, 3) := by decide +kernel
theorem dX10_name_8 : decode cX10_name 8 = .ok (.iload_n 2, 1) := by decide +kernel
theorem dX10_name_9 : decode cX10_name 9 = .ok (.ifCond .lt 8, 3) := by decide +kernel
theorem dX10_name_12 : decode cX10_name 12 = .ok (.iload_n 2, 1) := by decide +kernel
theorem dX10_name_13 : decode cX10_name 13 = .ok (.iconst 4, 1) := by decide +kernel
theorem dX10_name_14 : decode cX10_name 14 = .ok (.if_icmp .le 5, 3) := by decide +kernel
theorem dX10_name_17 : decode cX10_name 17 = .ok (.iconst (-1), 1) := by decide +kernel
theorem dX10_name_18 : decode cX10_name 18 = .ok (.ireturn, 1) := by decide +kernel
theorem dX10_name_19 : decode cX10_name 19 = .ok (.iload_n 2, 1) := by decide +kernel
theorem dX10_name_20 : decode cX10_name 20 = .ok (.ifCond .ne 10, 3) := by decide +kernel
theorem dX10_name_23 : decode cX10_name 23 = .ok (.aload_n 0, 1) := by decide +kernel
theorem dX10_name_24 : decode cX10_name 24 = .ok (.getfield 19, 3) := by decide +kernel
theorem dX10_name_27 : decode cX10_name 27 = .ok (.iload_n 1, 1) := by decide +kernel
theorem dX10_name_28 : decode cX10_name 28 = .ok (.iaload, 1) := by decide +kernel
theorem dX10_name_29 : decode cX10_name 29 = .ok (.ireturn, 1) := by decide +kernel
theorem dX10_name_30 : decode cX10_name 30 = .ok (.iload_n 2, 1) := by decide +kernel
theorem dX10_name_31 : decode cX10_name 31 = .ok (.iconst 1, 1) := by decide +kernel
theorem dX10_name_32 : decode cX10_name 32 = .ok (.if_icmp .ne 10, 3) := by decide +kernel
theorem dX10_name_35 : decode cX10_name 35 = .ok (.aload_n 0, 1) := by decide +kernel
theorem dX10_name_36 : decode cX10_name 36 = .ok (.getfield 16, 3) := by decide +kernel
theorem dX10_name_39 : decode cX10_name 39 = .ok (.iload_n 1, 1) := by decide +kernel
theorem dX10_name_40 : decode cX10_name 40 = .ok (.iaload, 1) := by decide +kernel
theorem dX10_name_41 : decode cX10_name 41 = .ok (.ireturn, 1) := by decide +kernel
theorem dX10_name_42 : decode cX10_name 42 = .ok (.iload_n 2, 1) := by decide +kernel
theorem dX10_name_43 : decode cX10_name 43 = .ok (.iconst 2, 1) := by decide +kernel
theorem dX10_name_44 : decode cX10_name 44 = .ok (.if_icmp .ne 10, 3) := by decide +kernel
theorem dX10_name_47 : decode cX10_name 47 = .ok (.aload_n 0, 1) := by decide +kernel
theorem dX10_name_48 : decode cX10_name 48 = .ok (.getfield 22, 3) := by decide +kernel
theorem dX10_name_51 : decode cX10_name 51 = .ok (.iload_n 1, 1) := by decide +kernel
theorem dX10_name_52 : decode cX10_name 52 = .ok (.iaload, 1) := by decide +kernel
theorem dX10_name_53 : decode cX10_name 53 = .ok (.ireturn, 1) := by decide +kernel
theorem dX10_name_54 : decode cX10_name 54 = .ok (.iload_n 2, 1) := by decide +kernel
theorem dX10_name_55 : decode cX10_name 55 = .ok (.iconst 3, 1) := by decide +kernel
theorem dX10_name_56 : decode cX10_name 56 = .ok (.if_icmp .ne 10, 3) := by decide +kernel
theorem dX10_name_59 : decode cX10_name 59 = .ok (.aload_n 0, 1) := by decide +kernel
theorem dX10_name_60 : decode cX10_name 60 = .ok (.getfield 25, 3) := by decide +kernel
theorem dX10_name_63 : decode cX10_name 63 = .ok (.iload_n 1, 1) := by decide +kernel
theorem dX10_name_64 : decode cX10_name 64 = .ok (.iaload, 1) := by decide +kernel
theorem dX10_name_65 : decode cX10_name 65 = .ok (.ireturn, 1) := by decide +kernel
theorem dX10_name_66 : decode cX10_name 66 = .ok (.iconst 0, 1) := by decide +kernel
theorem dX10_name_67 : decode cX10_name 67 = .ok (.istore_n 3, 1) := by decide +kernel
theorem dX10_name_68 : decode cX10_name 68 = .ok (.iconst 0, 1) := by decide +kernel
theorem dX10_name_69 : decode cX10_name 69 = .ok (.istore 4, 2) := by decide +kernel
theorem dX10_name_71 : decode cX10_name 71 = .ok (.iload 4, 2) := by decide +kernel
theorem dX10_name_73 : decode cX10_name 73 = .ok (.aload_n 0, 1) := by decide +kernel
theorem dX10_name_74 : decode cX10_name 74 = .ok (.getfield 16, 3) := by decide +kernel
theorem dX10_name_77 : decode cX10_name 77 = .ok (.iload_n 1, 1) := by decide +kernel
theorem dX10_name_78 : decode cX10_name 78 = .ok (.iaload, 1) := by decide +kernel
theorem dX10_name_79 : decode cX10_name 79 = .ok (.if_icmp .ge 26, 3) := by decide +kernel
theorem dX10_name_82 : decode cX10_name 82 = .ok (.aload_n 0, 1) := by decide +kernel
theorem dX10_name_83 : decode cX10_name 83 = .ok (.iload_n 1, 1) := by decide +kernel
theorem dX10_name_84 : decode cX10_name 84 = .ok (.iload 4, 2) := by decide +kernel
theorem dX10_name_86 : decode cX10_name 86 = .ok (.invokevirtual 148, 3) := by decide +kernel
theorem dX10_name_89 : decode cX10_name 89 = .ok (.ifCond .eq 10, 3) := by decide +kernel
theorem dX10_name_92 : decode cX10_name 92 = .ok (.iload_n 3, 1) := by decide +kernel
theorem dX10_name_93 : decode cX10_name 93 = .ok (.iconst 1, 1) := by decide +kernel
theorem dX10_name_94 : decode cX10_name 94 = .ok (.iload 4, 2) := by decide +kernel
theorem dX10_name_96 : decode cX10_name 96 = .ok (.ishl, 1) := by decide +kernel
theorem dX10_name_97 : decode cX10_name 97 = .ok (.iadd, 1) := by decide +kernel
theorem dX10_name_98 : decode cX10_name 98 = .ok (.istore_n 3, 1) := by decide +kernel
theorem dX10_name_99 : decode cX10_name 99 = .ok (.iinc 4 1, 3) := by decide +kernel
theorem dX10_name_102 : decode cX10_name 102 = .ok (.goto (-31), 3) := by decide +kernel
theorem dX10_name_105 : decode cX10_name 105 = .ok (.iload_n 3, 1) := by decide +kernel
theorem dX10_name_106 : decode cX10_name 106 = .ok (.ireturn, 1) := by decide +kernel
theorem dX10_sign_0 : decode cX10_sign 0 = .ok (.aload_n 0, 1) := by decide +kernel
theorem dX10_sign_1 : decode cX10_sign 1 = .ok (.iload_n 1, 1) := by decide +kernel
theorem dX10_sign_2 : decode cX10_sign 2 = .ok (.invokevirtual 145, 3) := by decide +kernel
theorem dX10_sign_5 : decode cX10_sign 5 = .ok (.ifCond .eq 7, 3) := by decide +kernel
theorem dX10_sign_8 : decode cX10_sign 8 = .ok (.iload_n 2, 1) := by decide +kernel
theorem dX10_sign_9 : decode cX10_sign 9 = .ok (.ifCond .ge 5, 3) := by decide +kernel
theorem dX10_sign_12 : decode cX10_sign 12 = .ok (.iconst (-1), 1) := by decide +kernel
theorem dX10_sign_13 : decode cX10_sign 13 = .ok (.ireturn, 1) := by decide +kernel
theorem dX10_sign_14 : decode cX10_sign 14 = .ok (.iload_n 2, 1) := by decide +kernel
theorem dX10_sign_15 : decode cX10_sign 15 = .ok (.aload_n 0, 1) := by decide +kernel
theorem dX10_sign_16 : decode cX10_sign 16 = .ok (.getfield 16, 3) := by decide +kernel
theorem dX10_sign_19 : decode cX10_sign 19 = .ok (.iload_n 1, 1) := by decide +kernel
theorem dX10_sign_20 : decode cX10_sign 20 = .ok (.iaload, 1) := by decide +kernel
theorem dX10_sign_21 : decode cX10_sign 21 = .ok (.if_icmp .ge 17, 3) := by decide +kernel
theorem dX10_sign_24 : decode cX10_sign 24 = .ok (.aload_n 0, 1) := by decide +kernel
theorem dX10_sign_25 : decode cX10_sign 25 = .ok (.getfield 13, 3) := by decide +kernel
theorem dX10_sign_28 : decode cX10_sign 28 = .ok (.bipush 12, 2) := by decide +kernel
theorem dX10_sign_30 : decode cX10_sign 30 = .ok (.iload_n 1, 1) := by decide +kernel
theorem dX10_sign_31 : decode cX10_sign 31 = .ok (.imul, 1) := by decide +kernel
theorem dX10_sign_32 : decode cX10_sign 32 = .ok (.iload_n 2, 1) := by decide +kernel
theorem dX10_sign_33 : decode cX10_sign 33 = .ok (.iadd, 1) := by decide +kernel
theorem dX10_sign_34 : decode cX10_sign 34 = .ok (.iaload, 1) := by decide +kernel
theorem dX10_sign_35 : decode cX10_sign 35 = .ok (.goto 5, 3) := by decide +kernel
theorem dX10_sign_38 : decode cX10_sign 38 = .ok (.bipush (-4), 2) := by decide +kernel
theorem dX10_sign_40 : decode cX10_sign 40 = .ok (.ireturn, 1) := by decide +kernel
theorem dX10_type_0 : decode cX10_type 0 = .ok (.iload_n 1, 1) := by decide +kernel
theorem dX10_type_1 : decode cX10_type 1 = .ok (.invokestatic 105, 3) := by decide +kernel
theorem dX10_type_4 : decode cX10_type 4 = .ok (.ifCond .ne 12, 3) := by decide +kernel
theorem dX10_type_7 : decode cX10_type 7 = .ok (.iload_n 1, 1) := by decide +kernel
theorem dX10_type_8 : decode cX10_type 8 = .ok (.invokestatic 109, 3) := by decide +kernel
theorem dX10_type_11 : decode cX10_type 11 = .ok (.ifCond .ne 5, 3) := by decide +kernel
theorem dX10_type_14 : decode cX10_type 14 = .ok (.iconst (-1), 1) := by decide +kernel
theorem dX10_type_15 : decode cX10_type 15 = .ok (.ireturn, 1) := by decide +kernel
theorem dX10_type_16 : decode cX10_type 16 = .ok (.aload_n 0, 1) := by decide +kernel
theorem dX10_type_17 : decode cX10_type 17 = .ok (.getfield 139, 3) := by decide +kernel
theorem dX10_type_20 : decode cX10_type 20 = .ok (.bipush 6, 2) := by decide +kernel
theorem dX10_type_22 : decode cX10_type 22 = .ok (.if_icmp .ne 6, 3) := by decide +kernel
theorem dX10_type_25 : decode cX10_type 25 = .ok (.bipush (-3), 2) := by decide +kernel
theorem dX10_type_27 : decode cX10_type 27 = .ok (.ireturn, 1) := by decide +kernel
theorem dX10_type_28 : decode cX10_type 28 = .ok (.aload_n 0, 1) := by decide +kernel
theorem dX10_type_29 : decode cX10_type 29 = .ok (.getfield 43, 3) := by decide +kernel
theorem dX10_type_32 : decode cX10_type 32 = .ok (.aload_n 0, 1) := by decide +kernel
theorem dX10_type_33 : decode cX10_type 33 = .ok (.getfield 139, 3) := by decide +kernel
theorem dX10_type_36 : decode cX10_type 36 = .ok (.iload_n 1, 1) := by decide +kernel
theorem dX10_type_37 : decode cX10_type 37 = .ok (.iastore, 1) := by decide +kernel
theorem dX10_type_38 : decode cX10_type 38 = .ok (.aload_n 0, 1) := by decide +kernel
theorem dX10_type_39 : decode cX10_type 39 = .ok (.dup, 1) := by decide +kernel
theorem dX10_type_40 : decode cX10_type 40 = .ok (.getfield 139, 3) := by decide +kernel
theorem dX10_type_43 : decode cX10_type 43 = .ok (.iconst 1, 1) := by decide +kernel
theorem dX10_type_44 : decode cX10_type 44 = .ok (.iadd, 1) := by decide +kernel
theorem dX10_type_45 : decode cX10_type 45 = .ok (.putfield 139, 3) := by decide +kernel
theorem dX10_type_48 : decode cX10_type 48 = .ok (.aload_n 0, 1) := by decide +kernel
theorem dX10_type_49 : decode cX10_type 49 = .ok (.getfield 139, 3) := by decide +kernel
theorem dX10_type_52 : decode cX10_type 52 = .ok (.ireturn, 1) := by decide +kernel
theorem dX10_untype_0 : decode cX10_untype 0 = .ok (.aload_n 0, 1) := by decide +kernel
theorem dX10_untype_1 : decode cX10_untype 1 = .ok (.getfield 139, 3) := by decide +kernel
theorem dX10_untype_4 : decode cX10_untype 4 = .ok (.ifCond .ne 6, 3) := by decide +kernel
theorem dX10_untype_7 : decode cX10_untype 7 = .ok (.bipush (-2), 2) := by decide +kernel
theorem dX10_untype_9 : decode cX10_untype 9 = .ok (.ireturn, 1) := by decide +kernel
theorem dX10_untype_10 : decode cX10_untype 10 = .ok (.aload_n 0, 1) := by decide +kernel
theorem dX10_untype_11 : decode cX10_untype 11 = .ok (.dup, 1) := by decide +kernel
theorem dX10_untype_12 : decode cX10_untype 12 = .ok (.getfield 139, 3) := by decide +kernel
theorem dX10_untype_15 : decode cX10_untype 15 = .ok (.iconst 1, 1) := by decide +kernel
theorem dX10_untype_16 : decode cX10_untype 16 = .ok (.isub, 1) := by decide +kernel
theorem dX10_untype_17 : decode cX10_untype 17 = .ok (.putfield 139, 3) := by decide +kernel
theorem dX10_untype_20 : decode cX10_untype 20 = .ok (.aload_n 0, 1) := by decide +kernel
theorem dX10_untype_21 : decode cX10_untype 21 = .ok (.getfield 43, 3) := by decide +kernel
theorem dX10_untype_24 : decode cX10_untype 24 = .ok (.aload_n 0, 1) := by decide +kernel
theorem dX10_untype_25 : decode cX10_untype 25 = .ok (.getfield 139, 3) := by decide +kernel
theorem dX10_untype_28 : decode cX10_untype 28 = .ok (.iaload, 1) := by decide +kernel
theorem dX10_untype_29 : decode cX10_untype 29 = .ok (.ireturn, 1) := by decide +kernel
theorem dX10_roll_0 : decode cX10_roll 0 = .ok (.aload_n 0, 1) := by decide +kernel
theorem dX10_roll_1 : decode cX10_roll 1 = .ok (.getfield 139, 3) := by decide +kernel
theorem dX10_roll_4 : decode cX10_roll 4 = .ok (.bipush 6, 2) := by decide +kernel
theorem dX10_roll_6 : decode cX10_roll 6 = .ok (.if_icmp .ne 6, 3) := by decide +kernel
theorem dX10_roll_9 : decode cX10_roll 9 = .ok (.bipush (-3), 2) := by decide +kernel
theorem dX10_roll_11 : decode cX10_roll 11 = .ok (.ireturn, 1) := by decide +kernel
theorem dX10_roll_12 : decode cX10_roll 12 = .ok (.aload_n 0, 1) := by decide +kernel
theorem dX10_roll_13 : decode cX10_roll 13 = .ok (.sipush 7919, 3) := by decide +kernel
theorem dX10_roll_16 : decode cX10_roll 16 = .ok (.aload_n 0, 1) := by decide +kernel
theorem dX10_roll_17 : decode cX10_roll 17 = .ok (.getfield 56, 3) := by decide +kernel
theorem dX10_roll_20 : decode cX10_roll 20 = .ok (.imul, 1) := by decide +kernel
theorem dX10_roll_21 : decode cX10_roll 21 = .ok (.sipush 12345, 3) := by decide +kernel
theorem dX10_roll_24 : decode cX10_roll 24 = .ok (.iadd, 1) := by decide +kernel
theorem dX10_roll_25 : decode cX10_roll 25 = .ok (.ldc 151, 2) := by decide +kernel
theorem dX10_roll_27 : decode cX10_roll 27 = .ok (.irem, 1) := by decide +kernel
theorem dX10_roll_28 : decode cX10_roll 28 = .ok (.putfield 56, 3) := by decide +kernel
theorem dX10_roll_31 : decode cX10_roll 31 = .ok (.aload_n 0, 1) := by decide +kernel
theorem dX10_roll_32 : decode cX10_roll 32 = .ok (.getfield 43, 3) := by decide +kernel
theorem dX10_roll_35 : decode cX10_roll 35 = .ok (.aload_n 0, 1) := by decide +kernel
theorem dX10_roll_36 : decode cX10_roll 36 = .ok (.getfield 139, 3) := by decide +kernel
theorem dX10_roll_39 : decode cX10_roll 39 = .ok (.bipush 97, 2) := by decide +kernel
theorem dX10_roll_41 : decode cX10_roll 41 = .ok (.aload_n 0, 1) := by decide +kernel
theorem dX10_roll_42 : decode cX10_roll 42 = .ok (.getfield 56, 3) := by decide +kernel
theorem dX10_roll_45 : decode cX10_roll 45 = .ok (.bipush 26, 2) := by decide +kernel
theorem dX10_roll_47 : decode cX10_roll 47 = .ok (.irem, 1) := by decide +kernel
theorem dX10_roll_48 : decode cX10_roll 48 = .ok (.iadd, 1) := by decide +kernel
theorem dX10_roll_49 : decode cX10_roll 49 = .ok (.iastore, 1) := by decide +kernel
theorem dX10_roll_50 : decode cX10_roll 50 = .ok (.aload_n 0, 1) := by decide +kernel
theorem dX10_roll_51 : decode cX10_roll 51 = .ok (.dup, 1) := by decide +kernel
theorem dX10_roll_52 : decode cX10_roll 52 = .ok (.getfield 139, 3) := by decide +kernel
theorem dX10_roll_55 : decode cX10_roll 55 = .ok (.iconst 1, 1) := by decide +kernel
theorem dX10_roll_56 : decode cX10_roll 56 = .ok (.iadd, 1) := by decide +kernel
theorem dX10_roll_57 : decode cX10_roll 57 = .ok (.putfield 139, 3) := by decide +kernel
theorem dX10_roll_60 : decode cX10_roll 60 = .ok (.aload_n 0, 1) := by decide +kernel
theorem dX10_roll_61 : decode cX10_roll 61 = .ok (.getfield 43, 3) := by decide +kernel
theorem dX10_roll_64 : decode cX10_roll 64 = .ok (.aload_n 0, 1) := by decide +kernel
theorem dX10_roll_65 : decode cX10_roll 65 = .ok (.getfield 139, 3) := by decide +kernel
theorem dX10_roll_68 : decode cX10_roll 68 = .ok (.iconst 1, 1) := by decide +kernel
theorem dX10_roll_69 : decode cX10_roll 69 = .ok (.isub, 1) := by decide +kernel
theorem dX10_roll_70 : decode cX10_roll 70 = .ok (.iaload, 1) := by decide +kernel
theorem dX10_roll_71 : decode cX10_roll 71 = .ok (.ireturn, 1) := by decide +kernel
theorem dX10_word_0 : decode cX10_word 0 = .ok (.iload_n 1, 1) := by decide +kernel
theorem dX10_word_1 : decode cX10_word 1 = .ok (.iconst (-1), 1) := by decide +kernel
theorem dX10_word_2 : decode cX10_word 2 = .ok (.if_icmp .ge 5, 3) := by decide +kernel
theorem dX10_word_5 : decode cX10_word 5 = .ok (.iconst (-1), 1) := by decide +kernel
theorem dX10_word_6 : decode cX10_word 6 = .ok (.ireturn, 1) := by decide +kernel
theorem dX10_word_7 : decode cX10_word 7 = .ok (.iload_n 1, 1) := by decide +kernel
theorem dX10_word_8 : decode cX10_word 8 = .ok (.iconst (-1), 1) := by decide +kernel
theorem dX10_word_9 : decode cX10_word 9 = .ok (.if_icmp .ne 8, 3) := by decide +kernel
theorem dX10_word_12 : decode cX10_word 12 = .ok (.aload_n 0, 1) := by decide +kernel
theorem dX10_word_13 : decode cX10_word 13 = .ok (.getfield 139, 3) := by decide +kernel
theorem dX10_word_16 : decode cX10_word 16 = .ok (.ireturn, 1) := by decide +kernel
theorem dX10_word_17 : decode cX10_word 17 = .ok (.iload_n 1, 1) := by decide +kernel
theorem dX10_word_18 : decode cX10_word 18 = .ok (.aload_n 0, 1) := by decide +kernel
theorem dX10_word_19 : decode cX10_word 19 = .ok (.getfield 139, 3) := by decide +kernel
theorem dX10_word_22 : decode cX10_word 22 = .ok (.if_icmp .ge 12, 3) := by decide +kernel
theorem dX10_word_25 : decode cX10_word 25 = .ok (.aload_n 0, 1) := by decide +kernel
theorem dX10_word_26 : decode cX10_word 26 = .ok (.getfield 43, 3) := by decide +kernel
theorem dX10_word_29 : decode cX10_word 29 = .ok (.iload_n 1, 1) := by decide +kernel
theorem dX10_word_30 : decode cX10_word 30 = .ok (.iaload, 1) := by decide +kernel
theorem dX10_word_31 : decode cX10_word 31 = .ok (.goto 5, 3) := by decide +kernel
theorem dX10_word_34 : decode cX10_word 34 = .ok (.bipush (-4), 2) := by decide +kernel
theorem dX10_word_36 : decode cX10_word 36 = .ok (.ireturn, 1) := by decide +kernel
theorem dX10_code_0 : decode cX10_code 0 = .ok (.lconst 0, 1) := by decide +kernel
theorem dX10_code_1 : decode cX10_code 1 = .ok (.lstore_n 1, 1) := by decide +kernel
theorem dX10_code_2 : decode cX10_code 2 = .ok (.iconst 0, 1) := by decide +kernel
theorem dX10_code_3 : decode cX10_code 3 = .ok (.istore_n 3, 1) := by decide +kernel
theorem dX10_code_4 : decode cX10_code 4 = .ok (.iload_n 3, 1) := by decide +kernel
theorem dX10_code_5 : decode cX10_code 5 = .ok (.aload_n 0, 1) := by decide +kernel
theorem dX10_code_6 : decode cX10_code 6 = .ok (.getfield 139, 3) := by decide +kernel
theorem dX10_code_9 : decode cX10_code 9 = .ok (.if_icmp .ge 51, 3) := by decide +kernel
theorem dX10_code_12 : decode cX10_code 12 = .ok (.aload_n 0, 1) := by decide +kernel
theorem dX10_code_13 : decode cX10_code 13 = .ok (.getfield 43, 3) := by decide +kernel
theorem dX10_code_16 : decode cX10_code 16 = .ok (.iload_n 3, 1) := by decide +kernel
theorem dX10_code_17 : decode cX10_code 17 = .ok (.iaload, 1) := by decide +kernel
theorem dX10_code_18 : decode cX10_code 18 = .ok (.istore 4, 2) := by decide +kernel
theorem dX10_code_20 : decode cX10_code 20 = .ok (.ldc2_w 152, 3) := by decide +kernel
theorem dX10_code_23 : decode cX10_code 23 = .ok (.lload_n 1, 1) := by decide +kernel
theorem dX10_code_24 : decode cX10_code 24 = .ok (.lmul, 1) := by decide +kernel
theorem dX10_code_25 : decode cX10_code 25 = .ok (.iload 4, 2) := by decide +kernel
theorem dX10_code_27 : decode cX10_code 27 = .ok (.invokestatic 105, 3) := by decide +kernel
theorem dX10_code_30 : decode cX10_code 30 = .ok (.ifCond .eq 13, 3) := by decide +kernel
theorem dX10_code_33 : decode cX10_code 33 = .ok (.iload 4, 2) := by decide +kernel
theorem dX10_code_35 : decode cX10_code 35 = .ok (.bipush 97, 2) := by decide +kernel
theorem dX10_code_37 : decode cX10_code 37 = .ok (.isub, 1) := by decide +kernel
theorem dX10_code_38 : decode cX10_code 38 = .ok (.iconst 1, 1) := by decide +kernel
theorem dX10_code_39 : decode cX10_code 39 = .ok (.iadd, 1) := by decide +kernel
theorem dX10_code_40 : decode cX10_code 40 = .ok (.goto 11, 3) := by decide +kernel
theorem dX10_code_43 : decode cX10_code 43 = .ok (.iload 4, 2) := by decide +kernel
theorem dX10_code_45 : decode cX10_code 45 = .ok (.bipush 65, 2) := by decide +kernel
theorem dX10_code_47 : decode cX10_code 47 = .ok (.isub, 1) := by decide +kernel
theorem dX10_code_48 : decode cX10_code 48 = .ok (.bipush 27, 2) := by decide +kernel
theorem dX10_code_50 : decode cX10_code 50 = .ok (.iadd, 1) := by decide +kernel
theorem dX10_code_51 : decode cX10_code 51 = .ok (.i2l, 1) := by decide +kernel
theorem dX10_code_52 : decode cX10_code 52 = .ok (.ladd, 1) := by decide +kernel
theorem dX10_code_53 : decode cX10_code 53 = .ok (.lstore_n 1, 1) := by decide +kernel
theorem dX10_code_54 : decode cX10_code 54 = .ok (.iinc 3 1, 3) := by decide +kernel
theorem dX10_code_57 : decode cX10_code 57 = .ok (.goto (-53), 3) := by decide +kernel
theorem dX10_code_60 : decode cX10_code 60 = .ok (.lload_n 1, 1) := by decide +kernel
theorem dX10_code_61 : decode cX10_code 61 = .ok (.lreturn, 1) := by decide +kernel
theorem dX10_pick_0 : decode cX10_pick 0 = .ok (.aload_n 0, 1) := by decide +kernel
theorem dX10_pick_1 : decode cX10_pick 1 = .ok (.iload_n 1, 1) := by decide +kernel
theorem dX10_pick_2 : decode cX10_pick 2 = .ok (.invokevirtual 145, 3) := by decide +kernel
theorem dX10_pick_5 : decode cX10_pick 5 = .ok (.ifCond .ne 5, 3) := by decide +kernel
theorem dX10_pick_8 : decode cX10_pick 8 = .ok (.iconst (-1), 1) := by decide +kernel
theorem dX10_pick_9 : decode cX10_pick 9 = .ok (.ireturn, 1) := by decide +kernel
theorem dX10_pick_10 : decode cX10_pick 10 = .ok (.aload_n 0, 1) := by decide +kernel
theorem dX10_pick_11 : decode cX10_pick 11 = .ok (.dup, 1) := by decide +kernel
theorem dX10_pick_12 : decode cX10_pick 12 = .ok (.getfield 154, 3) := by decide +kernel
theorem dX10_pick_15 : decode cX10_pick 15 = .ok (.iconst 1, 1) := by decide +kernel
theorem dX10_pick_16 : decode cX10_pick 16 = .ok (.iadd, 1) := by decide +kernel
theorem dX10_pick_17 : decode cX10_pick 17 = .ok (.putfield 154, 3) := by decide +kernel
theorem dX10_pick_20 : decode cX10_pick 20 = .ok (.aload_n 0, 1) := by decide +kernel
theorem dX10_pick_21 : decode cX10_pick 21 = .ok (.getfield 25, 3) := by decide +kernel
theorem dX10_pick_24 : decode cX10_pick 24 = .ok (.iload_n 1, 1) := by decide +kernel
theorem dX10_pick_25 : decode cX10_pick 25 = .ok (.aload_n 0, 1) := by decide +kernel
theorem dX10_pick_26 : decode cX10_pick 26 = .ok (.getfield 154, 3) := by decide +kernel
theorem dX10_pick_29 : decode cX10_pick 29 = .ok (.iastore, 1) := by decide +kernel
theorem dX10_pick_30 : decode cX10_pick 30 = .ok (.aload_n 0, 1) := by decide +kernel
theorem dX10_pick_31 : decode cX10_pick 31 = .ok (.getfield 154, 3) := by decide +kernel
theorem dX10_pick_34 : decode cX10_pick 34 = .ok (.ireturn, 1) := by decide +kernel
theorem dX10_forget_0 : decode cX10_forget 0 = .ok (.aload_n 0, 1) := by decide +kernel
theorem dX10_forget_1 : decode cX10_forget 1 = .ok (.iload_n 1, 1) := by decide +kernel
theorem dX10_forget_2 : decode cX10_forget 2 = .ok (.invokevirtual 145, 3) := by decide +kernel
theorem dX10_forget_5 : decode cX10_forget 5 = .ok (.ifCond .ne 5, 3) := by decide +kernel
theorem dX10_forget_8 : decode cX10_forget 8 = .ok (.iconst (-1), 1) := by decide +kernel
theorem dX10_forget_9 : decode cX10_forget 9 = .ok (.ireturn, 1) := by decide +kernel
theorem dX10_forget_10 : decode cX10_forget 10 = .ok (.aload_n 0, 1) := by decide +kernel
theorem dX10_forget_11 : decode cX10_forget 11 = .ok (.getfield 25, 3) := by decide +kernel
theorem dX10_forget_14 : decode cX10_forget 14 = .ok (.iload_n 1, 1) := by decide +kernel
theorem dX10_forget_15 : decode cX10_forget 15 = .ok (.iaload, 1) := by decide +kernel
theorem dX10_forget_16 : decode cX10_forget 16 = .ok (.ifCond .ne 6, 3) := by decide +kernel
theorem dX10_forget_19 : decode cX10_forget 19 = .ok (.bipush (-2), 2) := by decide +kernel
theorem dX10_forget_21 : decode cX10_forget 21 = .ok (.ireturn, 1) := by decide +kernel
theorem dX10_forget_22 : decode cX10_forget 22 = .ok (.aload_n 0, 1) := by decide +kernel
theorem dX10_forget_23 : decode cX10_forget 23 = .ok (.getfield 25, 3) := by decide +kernel
theorem dX10_forget_26 : decode cX10_forget 26 = .ok (.iload_n 1, 1) := by decide +kernel
theorem dX10_forget_27 : decode cX10_forget 27 = .ok (.iaload, 1) := by decide +kernel
theorem dX10_forget_28 : decode cX10_forget 28 = .ok (.istore_n 2, 1) := by decide +kernel
theorem dX10_forget_29 : decode cX10_forget 29 = .ok (.aload_n 0, 1) := by decide +kernel
theorem dX10_forget_30 : decode cX10_forget 30 = .ok (.getfield 25, 3) := by decide +kernel
theorem dX10_forget_33 : decode cX10_forget 33 = .ok (.iload_n 1, 1) := by decide +kernel
theorem dX10_forget_34 : decode cX10_forget 34 = .ok (.iconst 0, 1) := by decide +kernel
theorem dX10_forget_35 : decode cX10_forget 35 = .ok (.iastore, 1) := by decide +kernel
theorem dX10_forget_36 : decode cX10_forget 36 = .ok (.iload_n 2, 1) := by decide +kernel
theorem dX10_forget_37 : decode cX10_forget 37 = .ok (.ireturn, 1) := by decide +kernel
theorem dX10_drop_0 : decode cX10_drop 0 = .ok (.aload_n 0, 1) := by decide +kernel
theorem dX10_drop_1 : decode cX10_drop 1 = .ok (.iload_n 1, 1) := by decide +kernel
theorem dX10_drop_2 : decode cX10_drop 2 = .ok (.invokevirtual 145, 3) := by decide +kernel
theorem dX10_drop_5 : decode cX10_drop 5 = .ok (.ifCond .ne 5, 3) := by decide +kernel
theorem dX10_drop_8 : decode cX10_drop 8 = .ok (.iconst (-1), 1) := by decide +kernel
theorem dX10_drop_9 : decode cX10_drop 9 = .ok (.ireturn, 1) := by decide +kernel
theorem dX10_drop_10 : decode cX10_drop 10 = .ok (.aload_n 0, 1) := by decide +kernel
theorem dX10_drop_11 : decode cX10_drop 11 = .ok (.getfield 99, 3) := by decide +kernel
theorem dX10_drop_14 : decode cX10_drop 14 = .ok (.iconst 1, 1) := by decide +kernel
theorem dX10_drop_15 : decode cX10_drop 15 = .ok (.if_icmp .ne 6, 3) := by decide +kernel
theorem dX10_drop_18 : decode cX10_drop 18 = .ok (.bipush (-2), 2) := by decide +kernel
theorem dX10_drop_20 : decode cX10_drop 20 = .ok (.ireturn, 1) := by decide +kernel
theorem dX10_drop_21 : decode cX10_drop 21 = .ok (.aload_n 0, 1) := by decide +kernel
theorem dX10_drop_22 : decode cX10_drop 22 = .ok (.dup, 1) := by decide +kernel
theorem dX10_drop_23 : decode cX10_drop 23 = .ok (.getfield 99, 3) := by decide +kernel
theorem dX10_drop_26 : decode cX10_drop 26 = .ok (.iconst 1, 1) := by decide +kernel
theorem dX10_drop_27 : decode cX10_drop 27 = .ok (.isub, 1) := by decide +kernel
theorem dX10_drop_28 : decode cX10_drop 28 = .ok (.putfield 99, 3) := by decide +kernel
theorem dX10_drop_31 : decode cX10_drop 31 = .ok (.iload_n 1, 1) := by decide +kernel
theorem dX10_drop_32 : decode cX10_drop 32 = .ok (.istore_n 2, 1) := by decide +kernel
theorem dX10_drop_33 : decode cX10_drop 33 = .ok (.iload_n 2, 1) := by decide +kernel
theorem dX10_drop_34 : decode cX10_drop 34 = .ok (.aload_n 0, 1) := by decide +kernel
theorem dX10_drop_35 : decode cX10_drop 35 = .ok (.getfield 99, 3) := by decide +kernel
theorem dX10_drop_38 : decode cX10_drop 38 = .ok (.if_icmp .ge 108, 3) := by decide +kernel
theorem dX10_drop_41 : decode cX10_drop 41 = .ok (.aload_n 0, 1) := by decide +kernel
theorem dX10_drop_42 : decode cX10_drop 42 = .ok (.getfield 16, 3) := by decide +kernel
theorem dX10_drop_45 : decode cX10_drop 45 = .ok (.iload_n 2, 1) := by decide +kernel
theorem dX10_drop_46 : decode cX10_drop 46 = .ok (.aload_n 0, 1) := by decide +kernel
theorem dX10_drop_47 : decode cX10_drop 47 = .ok (.getfield 16, 3) := by decide +kernel
theorem dX10_drop_50 : decode cX10_drop 50 = .ok (.iload_n 2, 1) := by decide +kernel
theorem dX10_drop_51 : decode cX10_drop 51 = .ok (.iconst 1, 1) := by decide +kernel
theorem dX10_drop_52 : decode cX10_drop 52 = .ok (.iadd, 1) := by decide +kernel
theorem dX10_drop_53 : decode cX10_drop 53 = .ok (.iaload, 1) := by decide +kernel
theorem dX10_drop_54 : decode cX10_drop 54 = .ok (.iastore, 1) := by decide +kernel
theorem dX10_drop_55 : decode cX10_drop 55 = .ok (.aload_n 0, 1) := by decide +kernel
theorem dX10_drop_56 : decode cX10_drop 56 = .ok (.getfield 19, 3) := by decide +kernel
theorem dX10_drop_59 : decode cX10_drop 59 = .ok (.iload_n 2, 1) := by decide +kernel
theorem dX10_drop_60 : decode cX10_drop 60 = .ok (.aload_n 0, 1) := by decide +kernel
theorem dX10_drop_61 : decode cX10_drop 61 = .ok (.getfield 19, 3) := by decide +kernel
theorem dX10_drop_64 : decode cX10_drop 64 = .ok (.iload_n 2, 1) := by decide +kernel
theorem dX10_drop_65 : decode cX10_drop 65 = .ok (.iconst 1, 1) := by decide +kernel
theorem dX10_drop_66 : decode cX10_drop 66 = .ok (.iadd, 1) := by decide +kernel
theorem dX10_drop_67 : decode cX10_drop 67 = .ok (.iaload, 1) := by decide +kernel
theorem dX10_drop_68 : decode cX10_drop 68 = .ok (.iastore, 1) := by decide +kernel
theorem dX10_drop_69 : decode cX10_drop 69 = .ok (.aload_n 0, 1) := by decide +kernel
theorem dX10_drop_70 : decode cX10_drop 70 = .ok (.getfield 22, 3) := by decide +kernel
theorem dX10_drop_73 : decode cX10_drop 73 = .ok (.iload_n 2, 1) := by decide +kernel
theorem dX10_drop_74 : decode cX10_drop 74 = .ok (.aload_n 0, 1) := by decide +kernel
theorem dX10_drop_75 : decode cX10_drop 75 = .ok (.getfield 22, 3) := by decide +kernel
theorem dX10_drop_78 : decode cX10_drop 78 = .ok (.iload_n 2, 1) := by decide +kernel
theorem dX10_drop_79 : decode cX10_drop 79 = .ok (.iconst 1, 1) := by decide +kernel
theorem dX10_drop_80 : decode cX10_drop 80 = .ok (.iadd, 1) := by decide +kernel
theorem dX10_drop_81 : decode cX10_drop 81 = .ok (.iaload, 1) := by decide +kernel
theorem dX10_drop_82 : decode cX10_drop 82 = .ok (.iastore, 1) := by decide +kernel
theorem dX10_drop_83 : decode cX10_drop 83 = .ok (.aload_n 0, 1) := by decide +kernel
theorem dX10_drop_84 : decode cX10_drop 84 = .ok (.getfield 25, 3) := by decide +kernel
theorem dX10_drop_87 : decode cX10_drop 87 = .ok (.iload_n 2, 1) := by decide +kernel
theorem dX10_drop_88 : decode cX10_drop 88 = .ok (.aload_n 0, 1) := by decide +kernel
theorem dX10_drop_89 : decode cX10_drop 89 = .ok (.getfield 25, 3) := by decide +kernel
theorem dX10_drop_92 : decode cX10_drop 92 = .ok (.iload_n 2, 1) := by decide +kernel
theorem dX10_drop_93 : decode cX10_drop 93 = .ok (.iconst 1, 1) := by decide +kernel
theorem dX10_drop_94 : decode cX10_drop 94 = .ok (.iadd, 1) := by decide +kernel
theorem dX10_drop_95 : decode cX10_drop 95 = .ok (.iaload, 1) := by decide +kernel
theorem dX10_drop_96 : decode cX10_drop 96 = .ok (.iastore, 1) := by decide +kernel
theorem dX10_drop_97 : decode cX10_drop 97 = .ok (.iconst 0, 1) := by decide +kernel
theorem dX10_drop_98 : decode cX10_drop 98 = .ok (.istore_n 3, 1) := by decide +kernel
theorem dX10_drop_99 : decode cX10_drop 99 = .ok (.iload_n 3, 1) := by decide +kernel
theorem dX10_drop_100 : decode cX10_drop 100 = .ok (.aload_n 0, 1) := by decide +kernel
theorem dX10_drop_101 : decode cX10_drop 101 = .ok (.getfield 16, 3) := by decide +kernel
theorem dX10_drop_104 : decode cX10_drop 104 = .ok (.iload_n 2, 1) := by decide +kernel
theorem dX10_drop_105 : decode cX10_drop 105 = .ok (.iaload, 1) := by decide +kernel
theorem dX10_drop_106 : decode cX10_drop 106 = .ok (.if_icmp .ge 34, 3) := by decide +kernel
theorem dX10_drop_109 : decode cX10_drop 109 = .ok (.aload_n 0, 1) := by decide +kernel
theorem dX10_drop_110 : decode cX10_drop 110 = .ok (.getfield 13, 3) := by decide +kernel
theorem dX10_drop_113 : decode cX10_drop 113 = .ok (.bipush 12, 2) := by decide +kernel
theorem dX10_drop_115 : decode cX10_drop 115 = .ok (.iload_n 2, 1) := by decide +kernel
theorem dX10_drop_116 : decode cX10_drop 116 = .ok (.imul, 1) := by decide +kernel
theorem dX10_drop_117 : decode cX10_drop 117 = .ok (.iload_n 3, 1) := by decide +kernel
theorem dX10_drop_118 : decode cX10_drop 118 = .ok (.iadd, 1) := by decide +kernel
theorem dX10_drop_119 : decode cX10_drop 119 = .ok (.aload_n 0, 1) := by decide +kernel
theorem dX10_drop_120 : decode cX10_drop 120 = .ok (.getfield 13, 3) := by decide +kernel
theorem dX10_drop_123 : decode cX10_drop 123 = .ok (.bipush 12, 2) := by decide +kernel
theorem dX10_drop_125 : decode cX10_drop 125 = .ok (.iload_n 2, 1) := by decide +kernel
theorem dX10_drop_126 : decode cX10_drop 126 = .ok (.imul, 1) := by decide +kernel
theorem dX10_drop_127 : decode cX10_drop 127 = .ok (.bipush 12, 2) := by decide +kernel
theorem dX10_drop_129 : decode cX10_drop 129 = .ok (.iadd, 1) := by decide +kernel
theorem dX10_drop_130 : decode cX10_drop 130 = .ok (.iload_n 3, 1) := by decide +kernel
theorem dX10_drop_131 : decode cX10_drop 131 = .ok (.iadd, 1) := by decide +kernel
theorem dX10_drop_132 : decode cX10_drop 132 = .ok (.iaload, 1) := by decide +kernel
theorem dX10_drop_133 : decode cX10_drop 133 = .ok (.iastore, 1) := by decide +kernel
theorem dX10_drop_134 : decode cX10_drop 134 = .ok (.iinc 3 1, 3) := by decide +kernel
theorem dX10_drop_137 : decode cX10_drop 137 = .ok (.goto (-38), 3) := by decide +kernel
theorem dX10_drop_140 : decode cX10_drop 140 = .ok (.iinc 2 1, 3) := by decide +kernel
theorem dX10_drop_143 : decode cX10_drop 143 = .ok (.goto (-110), 3) := by decide +kernel
theorem dX10_drop_146 : decode cX10_drop 146 = .ok (.aload_n 0, 1) := by decide +kernel
theorem dX10_drop_147 : decode cX10_drop 147 = .ok (.getfield 99, 3) := by decide +kernel
theorem dX10_drop_150 : decode cX10_drop 150 = .ok (.ireturn, 1) := by decide +kernel
theorem dX10_rename_0 : decode cX10_rename 0 = .ok (.aload_n 0, 1) := by decide +kernel
theorem dX10_rename_1 : decode cX10_rename 1 = .ok (.iload_n 1, 1) := by decide +kernel
theorem dX10_rename_2 : decode cX10_rename 2 = .ok (.invokevirtual 145, 3) := by decide +kernel
theorem dX10_rename_5 : decode cX10_rename 5 = .ok (.ifCond .eq 12, 3) := by decide +kernel
theorem dX10_rename_8 : decode cX10_rename 8 = .ok (.iload_n 2, 1) := by decide +kernel
theorem dX10_rename_9 : decode cX10_rename 9 = .ok (.ifCond .lt 8, 3) := by decide +kernel
theorem dX10_rename_12 : decode cX10_rename 12 = .ok (.iload_n 2, 1) := by decide +kernel
theorem dX10_rename_13 : decode cX10_rename 13 = .ok (.iconst 3, 1) := by decide +kernel
theorem dX10_rename_14 : decode cX10_rename 14 = .ok (.if_icmp .le 5, 3) := by decide +kernel
theorem dX10_rename_17 : decode cX10_rename 17 = .ok (.iconst (-1), 1) := by decide +kernel
theorem dX10_rename_18 : decode cX10_rename 18 = .ok (.ireturn, 1) := by decide +kernel
theorem dX10_rename_19 : decode cX10_rename 19 = .ok (.aload_n 0, 1) := by decide +kernel
theorem dX10_rename_20 : decode cX10_rename 20 = .ok (.getfield 19, 3) := by decide +kernel
theorem dX10_rename_23 : decode cX10_rename 23 = .ok (.iload_n 1, 1) := by decide +kernel
theorem dX10_rename_24 : decode cX10_rename 24 = .ok (.iaload, 1) := by decide +kernel
theorem dX10_rename_25 : decode cX10_rename 25 = .ok (.iload_n 2, 1) := by decide +kernel
theorem dX10_rename_26 : decode cX10_rename 26 = .ok (.if_icmp .ne 6, 3) := by decide +kernel
theorem dX10_rename_29 : decode cX10_rename 29 = .ok (.bipush (-2), 2) := by decide +kernel
theorem dX10_rename_31 : decode cX10_rename 31 = .ok (.ireturn, 1) := by decide +kernel
theorem dX10_rename_32 : decode cX10_rename 32 = .ok (.aload_n 0, 1) := by decide +kernel
theorem dX10_rename_33 : decode cX10_rename 33 = .ok (.getfield 19, 3) := by decide +kernel
theorem dX10_rename_36 : decode cX10_rename 36 = .ok (.iload_n 1, 1) := by decide +kernel
theorem dX10_rename_37 : decode cX10_rename 37 = .ok (.iaload, 1) := by decide +kernel
theorem dX10_rename_38 : decode cX10_rename 38 = .ok (.istore_n 3, 1) := by decide +kernel
theorem dX10_rename_39 : decode cX10_rename 39 = .ok (.aload_n 0, 1) := by decide +kernel
theorem dX10_rename_40 : decode cX10_rename 40 = .ok (.getfield 19, 3) := by decide +kernel
theorem dX10_rename_43 : decode cX10_rename 43 = .ok (.iload_n 1, 1) := by decide +kernel
theorem dX10_rename_44 : decode cX10_rename 44 = .ok (.iload_n 2, 1) := by decide +kernel
theorem dX10_rename_45 : decode cX10_rename 45 = .ok (.iastore, 1) := by decide +kernel
theorem dX10_rename_46 : decode cX10_rename 46 = .ok (.aload_n 0, 1) := by decide +kernel
theorem dX10_rename_47 : decode cX10_rename 47 = .ok (.dup, 1) := by decide +kernel
theorem dX10_rename_48 : decode cX10_rename 48 = .ok (.getfield 52, 3) := by decide +kernel
theorem dX10_rename_51 : decode cX10_rename 51 = .ok (.iconst 1, 1) := by decide +kernel
theorem dX10_rename_52 : decode cX10_rename 52 = .ok (.iadd, 1) := by decide +kernel
theorem dX10_rename_53 : decode cX10_rename 53 = .ok (.putfield 52, 3) := by decide +kernel
theorem dX10_rename_56 : decode cX10_rename 56 = .ok (.iload_n 3, 1) := by decide +kernel
theorem dX10_rename_57 : decode cX10_rename 57 = .ok (.ireturn, 1) := by decide +kernel
theorem dX10_worth_0 : decode cX10_worth 0 = .ok (.iload_n 1, 1) := by decide +kernel
theorem dX10_worth_1 : decode cX10_worth 1 = .ok (.ifCond .lt 29, 3) := by decide +kernel
theorem dX10_worth_4 : decode cX10_worth 4 = .ok (.iload_n 1, 1) := by decide +kernel
theorem dX10_worth_5 : decode cX10_worth 5 = .ok (.bipush 9, 2) := by decide +kernel
theorem dX10_worth_7 : decode cX10_worth 7 = .ok (.if_icmp .gt 23, 3) := by decide +kernel
theorem dX10_worth_10 : decode cX10_worth 10 = .ok (.iload_n 2, 1) := by decide +kernel
theorem dX10_worth_11 : decode cX10_worth 11 = .ok (.ifCond .lt 19, 3) := by decide +kernel
theorem dX10_worth_14 : decode cX10_worth 14 = .ok (.iload_n 2, 1) := by decide +kernel
theorem dX10_worth_15 : decode cX10_worth 15 = .ok (.bipush 9, 2) := by decide +kernel
theorem dX10_worth_17 : decode cX10_worth 17 = .ok (.if_icmp .gt 13, 3) := by decide +kernel
theorem dX10_worth_20 : decode cX10_worth 20 = .ok (.iload_n 3, 1) := by decide +kernel
theorem dX10_worth_21 : decode cX10_worth 21 = .ok (.ifCond .lt 9, 3) := by decide +kernel
theorem dX10_worth_24 : decode cX10_worth 24 = .ok (.iload_n 3, 1) := by decide +kernel
theorem dX10_worth_25 : decode cX10_worth 25 = .ok (.bipush 9, 2) := by decide +kernel
theorem dX10_worth_27 : decode cX10_worth 27 = .ok (.if_icmp .le 5, 3) := by decide +kernel
theorem dX10_worth_30 : decode cX10_worth 30 = .ok (.iconst (-1), 1) := by decide +kernel
theorem dX10_worth_31 : decode cX10_worth 31 = .ok (.ireturn, 1) := by decide +kernel
theorem dX10_worth_32 : decode cX10_worth 32 = .ok (.aload_n 0, 1) := by decide +kernel
theorem dX10_worth_33 : decode cX10_worth 33 = .ok (.getfield 28, 3) := by decide +kernel
theorem dX10_worth_36 : decode cX10_worth 36 = .ok (.iconst 0, 1) := by decide +kernel
theorem dX10_worth_37 : decode cX10_worth 37 = .ok (.iaload, 1) := by decide +kernel
theorem dX10_worth_38 : decode cX10_worth 38 = .ok (.iload_n 1, 1) := by decide +kernel
theorem dX10_worth_39 : decode cX10_worth 39 = .ok (.if_icmp .ne 26, 3) := by decide +kernel
theorem dX10_worth_42 : decode cX10_worth 42 = .ok (.aload_n 0, 1) := by decide +kernel
theorem dX10_worth_43 : decode cX10_worth 43 = .ok (.getfield 28, 3) := by decide +kernel
theorem dX10_worth_46 : decode cX10_worth 46 = .ok (.iconst 1, 1) := by decide +kernel
theorem dX10_worth_47 : decode cX10_worth 47 = .ok (.iaload, 1) := by decide +kernel
theorem dX10_worth_48 : decode cX10_worth 48 = .ok (.iload_n 2, 1) := by decide +kernel
theorem dX10_worth_49 : decode cX10_worth 49 = .ok (.if_icmp .ne 16, 3) := by decide +kernel
theorem dX10_worth_52 : decode cX10_worth 52 = .ok (.aload_n 0, 1) := by decide +kernel
theorem dX10_worth_53 : decode cX10_worth 53 = .ok (.getfield 28, 3) := by decide +kernel
theorem dX10_worth_56 : decode cX10_worth 56 = .ok (.iconst 2, 1) := by decide +kernel
theorem dX10_worth_57 : decode cX10_worth 57 = .ok (.iaload, 1) := by decide +kernel
theorem dX10_worth_58 : decode cX10_worth 58 = .ok (.iload_n 3, 1) := by decide +kernel
theorem dX10_worth_59 : decode cX10_worth 59 = .ok (.if_icmp .ne 6, 3) := by decide +kernel
theorem dX10_worth_62 : decode cX10_worth 62 = .ok (.bipush (-2), 2) := by decide +kernel
theorem dX10_worth_64 : decode cX10_worth 64 = .ok (.ireturn, 1) := by decide +kernel
theorem dX10_worth_65 : decode cX10_worth 65 = .ok (.aload_n 0, 1) := by decide +kernel
theorem dX10_worth_66 : decode cX10_worth 66 = .ok (.getfield 28, 3) := by decide +kernel
theorem dX10_worth_69 : decode cX10_worth 69 = .ok (.iconst 0, 1) := by decide +kernel
theorem dX10_worth_70 : decode cX10_worth 70 = .ok (.iload_n 1, 1) := by decide +kernel
theorem dX10_worth_71 : decode cX10_worth 71 = .ok (.iastore, 1) := by decide +kernel
theorem dX10_worth_72 : decode cX10_worth 72 = .ok (.aload_n 0, 1) := by decide +kernel
theorem dX10_worth_73 : decode cX10_worth 73 = .ok (.getfield 28, 3) := by decide +kernel
theorem dX10_worth_76 : decode cX10_worth 76 = .ok (.iconst 1, 1) := by decide +kernel
theorem dX10_worth_77 : decode cX10_worth 77 = .ok (.iload_n 2, 1) := by decide +kernel
theorem dX10_worth_78 : decode cX10_worth 78 = .ok (.iastore, 1) := by decide +kernel
theorem dX10_worth_79 : decode cX10_worth 79 = .ok (.aload_n 0, 1) := by decide +kernel
theorem dX10_worth_80 : decode cX10_worth 80 = .ok (.getfield 28, 3) := by decide +kernel
theorem dX10_worth_83 : decode cX10_worth 83 = .ok (.iconst 2, 1) := by decide +kernel
theorem dX10_worth_84 : decode cX10_worth 84 = .ok (.iload_n 3, 1) := by decide +kernel
theorem dX10_worth_85 : decode cX10_worth 85 = .ok (.iastore, 1) := by decide +kernel
theorem dX10_worth_86 : decode cX10_worth 86 = .ok (.aload_n 0, 1) := by decide +kernel
theorem dX10_worth_87 : decode cX10_worth 87 = .ok (.dup, 1) := by decide +kernel
theorem dX10_worth_88 : decode cX10_worth 88 = .ok (.getfield 52, 3) := by decide +kernel
theorem dX10_worth_91 : decode cX10_worth 91 = .ok (.iconst 1, 1) := by decide +kernel
theorem dX10_worth_92 : decode cX10_worth 92 = .ok (.iadd, 1) := by decide +kernel
theorem dX10_worth_93 : decode cX10_worth 93 = .ok (.putfield 52, 3) := by decide +kernel
theorem dX10_worth_96 : decode cX10_worth 96 = .ok (.aload_n 0, 1) := by decide +kernel
theorem dX10_worth_97 : decode cX10_worth 97 = .ok (.getfield 52, 3) := by decide +kernel
theorem dX10_worth_100 : decode cX10_worth 100 = .ok (.ireturn, 1) := by decide +kernel
theorem dX10_low_0 : decode cX10_low 0 = .ok (.iload_n 0, 1) := by decide +kernel
theorem dX10_low_1 : decode cX10_low 1 = .ok (.invokestatic 109, 3) := by decide +kernel
theorem dX10_low_4 : decode cX10_low 4 = .ok (.ifCond .eq 13, 3) := by decide +kernel
theorem dX10_low_7 : decode cX10_low 7 = .ok (.iload_n 0, 1) := by decide +kernel
theorem dX10_low_8 : decode cX10_low 8 = .ok (.bipush 65, 2) := by decide +kernel
theorem dX10_low_10 : decode cX10_low 10 = .ok (.isub, 1) := by decide +kernel
theorem dX10_low_11 : decode cX10_low 11 = .ok (.bipush 97, 2) := by decide +kernel
theorem dX10_low_13 : decode cX10_low 13 = .ok (.iadd, 1) := by decide +kernel
theorem dX10_low_14 : decode cX10_low 14 = .ok (.goto 4, 3) := by decide +kernel
theorem dX10_low_17 : decode cX10_low 17 = .ok (.iload_n 0, 1) := by decide +kernel
theorem dX10_low_18 : decode cX10_low 18 = .ok (.ireturn, 1) := by decide +kernel
theorem dX10_isAlike_0 : decode cX10_isAlike 0 = .ok (.aload_n 0, 1) := by decide +kernel
theorem dX10_isAlike_1 : decode cX10_isAlike 1 = .ok (.getfield 13, 3) := by decide +kernel
theorem dX10_isAlike_4 : decode cX10_isAlike 4 = .ok (.bipush 12, 2) := by decide +kernel
theorem dX10_isAlike_6 : decode cX10_isAlike 6 = .ok (.iload_n 1, 1) := by decide +kernel
theorem dX10_isAlike_7 : decode cX10_isAlike 7 = .ok (.imul, 1) := by decide +kernel
theorem dX10_isAlike_8 : decode cX10_isAlike 8 = .ok (.iload_n 2, 1) := by decide +kernel
theorem dX10_isAlike_9 : decode cX10_isAlike 9 = .ok (.iadd, 1) := by decide +kernel
theorem dX10_isAlike_10 : decode cX10_isAlike 10 = .ok (.iaload, 1) := by decide +kernel
theorem dX10_isAlike_11 : decode cX10_isAlike 11 = .ok (.istore 4, 2) := by decide +kernel
theorem dX10_isAlike_13 : decode cX10_isAlike 13 = .ok (.aload_n 0, 1) := by decide +kernel
theorem dX10_isAlike_14 : decode cX10_isAlike 14 = .ok (.getfield 19, 3) := by decide +kernel
theorem dX10_isAlike_17 : decode cX10_isAlike 17 = .ok (.iload_n 1, 1) := by decide +kernel
theorem dX10_isAlike_18 : decode cX10_isAlike 18 = .ok (.iaload, 1) := by decide +kernel
theorem dX10_isAlike_19 : decode cX10_isAlike 19 = .ok (.iconst 1, 1) := by decide +kernel
theorem dX10_isAlike_20 : decode cX10_isAlike 20 = .ok (.if_icmp .ne 17, 3) := by decide +kernel
theorem dX10_isAlike_23 : decode cX10_isAlike 23 = .ok (.iload 4, 2) := by decide +kernel
theorem dX10_isAlike_25 : decode cX10_isAlike 25 = .ok (.iload_n 3, 1) := by decide +kernel
theorem dX10_isAlike_26 : decode cX10_isAlike 26 = .ok (.if_icmp .ne 7, 3) := by decide +kernel
theorem dX10_isAlike_29 : decode cX10_isAlike 29 = .ok (.iconst 1, 1) := by decide +kernel
theorem dX10_isAlike_30 : decode cX10_isAlike 30 = .ok (.goto 24, 3) := by decide +kernel
theorem dX10_isAlike_33 : decode cX10_isAlike 33 = .ok (.iconst 0, 1) := by decide +kernel
theorem dX10_isAlike_34 : decode cX10_isAlike 34 = .ok (.goto 20, 3) := by decide +kernel
theorem dX10_isAlike_37 : decode cX10_isAlike 37 = .ok (.iload 4, 2) := by decide +kernel
theorem dX10_isAlike_39 : decode cX10_isAlike 39 = .ok (.invokestatic 157, 3) := by decide +kernel
theorem dX10_isAlike_42 : decode cX10_isAlike 42 = .ok (.iload_n 3, 1) := by decide +kernel
theorem dX10_isAlike_43 : decode cX10_isAlike 43 = .ok (.invokestatic 157, 3) := by decide +kernel
theorem dX10_isAlike_46 : decode cX10_isAlike 46 = .ok (.if_icmp .ne 7, 3) := by decide +kernel
theorem dX10_isAlike_49 : decode cX10_isAlike 49 = .ok (.iconst 1, 1) := by decide +kernel
theorem dX10_isAlike_50 : decode cX10_isAlike 50 = .ok (.goto 4, 3) := by decide +kernel
theorem dX10_isAlike_53 : decode cX10_isAlike 53 = .ok (.iconst 0, 1) := by decide +kernel
theorem dX10_isAlike_54 : decode cX10_isAlike 54 = .ok (.ireturn, 1) := by decide +kernel
theorem dX10_goesOn_0 : decode cX10_goesOn 0 = .ok (.aload_n 0, 1) := by decide +kernel
theorem dX10_goesOn_1 : decode cX10_goesOn 1 = .ok (.getfield 160, 3) := by decide +kernel
theorem dX10_goesOn_4 : decode cX10_goesOn 4 = .ok (.iconst 1, 1) := by decide +kernel
theorem dX10_goesOn_5 : decode cX10_goesOn 5 = .ok (.isub, 1) := by decide +kernel
theorem dX10_goesOn_6 : decode cX10_goesOn 6 = .ok (.istore_n 2, 1) := by decide +kernel
theorem dX10_goesOn_7 : decode cX10_goesOn 7 = .ok (.iload_n 2, 1) := by decide +kernel
theorem dX10_goesOn_8 : decode cX10_goesOn 8 = .ok (.ifCond .lt 26, 3) := by decide +kernel
theorem dX10_goesOn_11 : decode cX10_goesOn 11 = .ok (.aload_n 0, 1) := by decide +kernel
theorem dX10_goesOn_12 : decode cX10_goesOn 12 = .ok (.getfield 78, 3) := by decide +kernel
theorem dX10_goesOn_15 : decode cX10_goesOn 15 = .ok (.iload_n 2, 1) := by decide +kernel
theorem dX10_goesOn_16 : decode cX10_goesOn 16 = .ok (.iaload, 1) := by decide +kernel
theorem dX10_goesOn_17 : decode cX10_goesOn 17 = .ok (.iload_n 1, 1) := by decide +kernel
theorem dX10_goesOn_18 : decode cX10_goesOn 18 = .ok (.aload_n 0, 1) := by decide +kernel
theorem dX10_goesOn_19 : decode cX10_goesOn 19 = .ok (.getfield 160, 3) := by decide +kernel
theorem dX10_goesOn_22 : decode cX10_goesOn 22 = .ok (.isub, 1) := by decide +kernel
theorem dX10_goesOn_23 : decode cX10_goesOn 23 = .ok (.iload_n 2, 1) := by decide +kernel
theorem dX10_goesOn_24 : decode cX10_goesOn 24 = .ok (.iadd, 1) := by decide +kernel
theorem dX10_goesOn_25 : decode cX10_goesOn 25 = .ok (.if_icmp .ne 9, 3) := by decide +kernel
theorem dX10_goesOn_28 : decode cX10_goesOn 28 = .ok (.iinc 2 (-1), 3) := by decide +kernel
theorem dX10_goesOn_31 : decode cX10_goesOn 31 = .ok (.goto (-24), 3) := by decide +kernel
theorem dX10_goesOn_34 : decode cX10_goesOn 34 = .ok (.iload_n 2, 1) := by decide +kernel
theorem dX10_goesOn_35 : decode cX10_goesOn 35 = .ok (.ifCond .ge 5, 3) := by decide +kernel
theorem dX10_goesOn_38 : decode cX10_goesOn 38 = .ok (.iconst 0, 1) := by decide +kernel
theorem dX10_goesOn_39 : decode cX10_goesOn 39 = .ok (.ireturn, 1) := by decide +kernel
theorem dX10_goesOn_40 : decode cX10_goesOn 40 = .ok (.aload_n 0, 1) := by decide +kernel
theorem dX10_goesOn_41 : decode cX10_goesOn 41 = .ok (.getfield 78, 3) := by decide +kernel
theorem dX10_goesOn_44 : decode cX10_goesOn 44 = .ok (.iload_n 2, 1) := by decide +kernel
theorem dX10_goesOn_45 : decode cX10_goesOn 45 = .ok (.dup2, 1) := by decide +kernel
theorem dX10_goesOn_46 : decode cX10_goesOn 46 = .ok (.iaload, 1) := by decide +kernel
theorem dX10_goesOn_47 : decode cX10_goesOn 47 = .ok (.iconst 1, 1) := by decide +kernel
theorem dX10_goesOn_48 : decode cX10_goesOn 48 = .ok (.iadd, 1) := by decide +kernel
theorem dX10_goesOn_49 : decode cX10_goesOn 49 = .ok (.iastore, 1) := by decide +kernel
theorem dX10_goesOn_50 : decode cX10_goesOn 50 = .ok (.iload_n 2, 1) := by decide +kernel
theorem dX10_goesOn_51 : decode cX10_goesOn 51 = .ok (.iconst 1, 1) := by decide +kernel
theorem dX10_goesOn_52 : decode cX10_goesOn 52 = .ok (.iadd, 1) := by decide +kernel
theorem dX10_goesOn_53 : decode cX10_goesOn 53 = .ok (.istore_n 3, 1) := by decide +kernel
theorem dX10_goesOn_54 : decode cX10_goesOn 54 = .ok (.iload_n 3, 1) := by decide +kernel
theorem dX10_goesOn_55 : decode cX10_goesOn 55 = .ok (.aload_n 0, 1) := by decide +kernel
theorem dX10_goesOn_56 : decode cX10_goesOn 56 = .ok (.getfield 160, 3) := by decide +kernel
theorem dX10_goesOn_59 : decode cX10_goesOn 59 = .ok (.if_icmp .ge 25, 3) := by decide +kernel
theorem dX10_goesOn_62 : decode cX10_goesOn 62 = .ok (.aload_n 0, 1) := by decide +kernel
theorem dX10_goesOn_63 : decode cX10_goesOn 63 = .ok (.getfield 78, 3) := by decide +kernel
theorem dX10_goesOn_66 : decode cX10_goesOn 66 = .ok (.iload_n 3, 1) := by decide +kernel
theorem dX10_goesOn_67 : decode cX10_goesOn 67 = .ok (.aload_n 0, 1) := by decide +kernel
theorem dX10_goesOn_68 : decode cX10_goesOn 68 = .ok (.getfield 78, 3) := by decide +kernel
theorem dX10_goesOn_71 : decode cX10_goesOn 71 = .ok (.iload_n 3, 1) := by decide +kernel
theorem dX10_goesOn_72 : decode cX10_goesOn 72 = .ok (.iconst 1, 1) := by decide +kernel
theorem dX10_goesOn_73 : decode cX10_goesOn 73 = .ok (.isub, 1) := by decide +kernel
theorem dX10_goesOn_74 : decode cX10_goesOn 74 = .ok (.iaload, 1) := by decide +kernel
theorem dX10_goesOn_75 : decode cX10_goesOn 75 = .ok (.iconst 1, 1) := by decide +kernel
theorem dX10_goesOn_76 : decode cX10_goesOn 76 = .ok (.iadd, 1) := by decide +kernel
theorem dX10_goesOn_77 : decode cX10_goesOn 77 = .ok (.iastore, 1) := by decide +kernel
theorem dX10_goesOn_78 : decode cX10_goesOn 78 = .ok (.iinc 3 1, 3) := by decide +kernel
theorem dX10_goesOn_81 : decode cX10_goesOn 81 = .ok (.goto (-27), 3) := by decide +kernel
theorem dX10_goesOn_84 : decode cX10_goesOn 84 = .ok (.iconst 1, 1) := by decide +kernel
theorem dX10_goesOn_85 : decode cX10_goesOn 85 = .ok (.ireturn, 1) := by decide +kernel
theorem dX10_isWay_0 : decode cX10_isWay 0 = .ok (.iconst 0, 1) := by decide +kernel
theorem dX10_isWay_1 : decode cX10_isWay 1 = .ok (.istore_n 2, 1) := by decide +kernel
theorem dX10_isWay_2 : decode cX10_isWay 2 = .ok (.iload_n 2, 1) := by decide +kernel
theorem dX10_isWay_3 : decode cX10_isWay 3 = .ok (.aload_n 0, 1) := by decide +kernel
theorem dX10_isWay_4 : decode cX10_isWay 4 = .ok (.getfield 160, 3) := by decide +kernel
theorem dX10_isWay_7 : decode cX10_isWay 7 = .ok (.if_icmp .ge 31, 3) := by decide +kernel
theorem dX10_isWay_10 : decode cX10_isWay 10 = .ok (.aload_n 0, 1) := by decide +kernel
theorem dX10_isWay_11 : decode cX10_isWay 11 = .ok (.iload_n 1, 1) := by decide +kernel
theorem dX10_isWay_12 : decode cX10_isWay 12 = .ok (.aload_n 0, 1) := by decide +kernel
theorem dX10_isWay_13 : decode cX10_isWay 13 = .ok (.getfield 78, 3) := by decide +kernel
theorem dX10_isWay_16 : decode cX10_isWay 16 = .ok (.iload_n 2, 1) := by decide +kernel
theorem dX10_isWay_17 : decode cX10_isWay 17 = .ok (.iaload, 1) := by decide +kernel
theorem dX10_isWay_18 : decode cX10_isWay 18 = .ok (.aload_n 0, 1) := by decide +kernel
theorem dX10_isWay_19 : decode cX10_isWay 19 = .ok (.getfield 75, 3) := by decide +kernel
theorem dX10_isWay_22 : decode cX10_isWay 22 = .ok (.iload_n 2, 1) := by decide +kernel
theorem dX10_isWay_23 : decode cX10_isWay 23 = .ok (.iaload, 1) := by decide +kernel
theorem dX10_isWay_24 : decode cX10_isWay 24 = .ok (.invokevirtual 163, 3) := by decide +kernel
theorem dX10_isWay_27 : decode cX10_isWay 27 = .ok (.ifCond .ne 5, 3) := by decide +kernel
theorem dX10_isWay_30 : decode cX10_isWay 30 = .ok (.iconst 0, 1) := by decide +kernel
theorem dX10_isWay_31 : decode cX10_isWay 31 = .ok (.ireturn, 1) := by decide +kernel
theorem dX10_isWay_32 : decode cX10_isWay 32 = .ok (.iinc 2 1, 3) := by decide +kernel
theorem dX10_isWay_35 : decode cX10_isWay 35 = .ok (.goto (-33), 3) := by decide +kernel
theorem dX10_isWay_38 : decode cX10_isWay 38 = .ok (.iconst 1, 1) := by decide +kernel
theorem dX10_isWay_39 : decode cX10_isWay 39 = .ok (.ireturn, 1) := by decide +kernel
theorem dX10_worthOfWay_0 : decode cX10_worthOfWay 0 = .ok (.iconst 0, 1) := by decide +kernel
theorem dX10_worthOfWay_1 : decode cX10_worthOfWay 1 = .ok (.istore_n 2, 1) := by decide +kernel
theorem dX10_worthOfWay_2 : decode cX10_worthOfWay 2 = .ok (.iconst 0, 1) := by decide +kernel
theorem dX10_worthOfWay_3 : decode cX10_worthOfWay 3 = .ok (.istore_n 3, 1) := by decide +kernel
theorem dX10_worthOfWay_4 : decode cX10_worthOfWay 4 = .ok (.iload_n 3, 1) := by decide +kernel
theorem dX10_worthOfWay_5 : decode cX10_worthOfWay 5 = .ok (.aload_n 0, 1) := by decide +kernel
theorem dX10_worthOfWay_6 : decode cX10_worthOfWay 6 = .ok (.getfield 160, 3) := by decide +kernel
theorem dX10_worthOfWay_9 : decode cX10_worthOfWay 9 = .ok (.if_icmp .ge 127, 3) := by decide +kernel
theorem dX10_worthOfWay_12 : decode cX10_worthOfWay 12 = .ok (.iinc 2 50, 3) := by decide +kernel
theorem dX10_worthOfWay_15 : decode cX10_worthOfWay 15 = .ok (.aload_n 0, 1) := by decide +kernel
theorem dX10_worthOfWay_16 : decode cX10_worthOfWay 16 = .ok (.iload_n 1, 1) := by decide +kernel
theorem dX10_worthOfWay_17 : decode cX10_worthOfWay 17 = .ok (.aload_n 0, 1) := by decide +kernel
theorem dX10_worthOfWay_18 : decode cX10_worthOfWay 18 = .ok (.getfield 78, 3) := by decide +kernel
theorem dX10_worthOfWay_21 : decode cX10_worthOfWay 21 = .ok (.iload_n 3, 1) := by decide +kernel
theorem dX10_worthOfWay_22 : decode cX10_worthOfWay 22 = .ok (.iaload, 1) := by decide +kernel
theorem dX10_worthOfWay_23 : decode cX10_worthOfWay 23 = .ok (.invokevirtual 148, 3) := by decide +kernel
theorem dX10_worthOfWay_26 : decode cX10_worthOfWay 26 = .ok (.ifCond .eq 42, 3) := by decide +kernel
theorem dX10_worthOfWay_29 : decode cX10_worthOfWay 29 = .ok (.iload_n 2, 1) := by decide +kernel
theorem dX10_worthOfWay_30 : decode cX10_worthOfWay 30 = .ok (.aload_n 0, 1) := by decide +kernel
theorem dX10_worthOfWay_31 : decode cX10_worthOfWay 31 = .ok (.getfield 19, 3) := by decide +kernel
theorem dX10_worthOfWay_34 : decode cX10_worthOfWay 34 = .ok (.iload_n 1, 1) := by decide +kernel
theorem dX10_worthOfWay_35 : decode cX10_worthOfWay 35 = .ok (.iaload, 1) := by decide +kernel
theorem dX10_worthOfWay_36 : decode cX10_worthOfWay 36 = .ok (.iconst 2, 1) := by decide +kernel
theorem dX10_worthOfWay_37 : decode cX10_worthOfWay 37 = .ok (.if_icmp .ne 23, 3) := by decide +kernel
theorem dX10_worthOfWay_40 : decode cX10_worthOfWay 40 = .ok (.aload_n 0, 1) := by decide +kernel
theorem dX10_worthOfWay_41 : decode cX10_worthOfWay 41 = .ok (.getfield 78, 3) := by decide +kernel
theorem dX10_worthOfWay_44 : decode cX10_worthOfWay 44 = .ok (.iload_n 3, 1) := by decide +kernel
theorem dX10_worthOfWay_45 : decode cX10_worthOfWay 45 = .ok (.iaload, 1) := by decide +kernel
theorem dX10_worthOfWay_46 : decode cX10_worthOfWay 46 = .ok (.ifCond .ne 14, 3) := by decide +kernel
theorem dX10_worthOfWay_49 : decode cX10_worthOfWay 49 = .ok (.iconst 2, 1) := by decide +kernel
theorem dX10_worthOfWay_50 : decode cX10_worthOfWay 50 = .ok (.aload_n 0, 1) := by decide +kernel
theorem dX10_worthOfWay_51 : decode cX10_worthOfWay 51 = .ok (.getfield 28, 3) := by decide +kernel
theorem dX10_worthOfWay_54 : decode cX10_worthOfWay 54 = .ok (.iconst 0, 1) := by decide +kernel
theorem dX10_worthOfWay_55 : decode cX10_worthOfWay 55 = .ok (.iaload, 1) := by decide +kernel
theorem dX10_worthOfWay_56 : decode cX10_worthOfWay 56 = .ok (.imul, 1) := by decide +kernel
theorem dX10_worthOfWay_57 : decode cX10_worthOfWay 57 = .ok (.goto 9, 3) := by decide +kernel
theorem dX10_worthOfWay_60 : decode cX10_worthOfWay 60 = .ok (.aload_n 0, 1) := by decide +kernel
theorem dX10_worthOfWay_61 : decode cX10_worthOfWay 61 = .ok (.getfield 28, 3) := by decide +kernel
theorem dX10_worthOfWay_64 : decode cX10_worthOfWay 64 = .ok (.iconst 0, 1) := by decide +kernel
theorem dX10_worthOfWay_65 : decode cX10_worthOfWay 65 = .ok (.iaload, 1) := by decide +kernel
theorem dX10_worthOfWay_66 : decode cX10_worthOfWay 66 = .ok (.iadd, 1) := by decide +kernel
theorem dX10_worthOfWay_67 : decode cX10_worthOfWay 67 = .ok (.istore_n 2, 1) := by decide +kernel
theorem dX10_worthOfWay_68 : decode cX10_worthOfWay 68 = .ok (.iload_n 3, 1) := by decide +kernel
theorem dX10_worthOfWay_69 : decode cX10_worthOfWay 69 = .ok (.ifCond .le 61, 3) := by decide +kernel
theorem dX10_worthOfWay_72 : decode cX10_worthOfWay 72 = .ok (.aload_n 0, 1) := by decide +kernel
theorem dX10_worthOfWay_73 : decode cX10_worthOfWay 73 = .ok (.getfield 78, 3) := by decide +kernel
theorem dX10_worthOfWay_76 : decode cX10_worthOfWay 76 = .ok (.iload_n 3, 1) := by decide +kernel
theorem dX10_worthOfWay_77 : decode cX10_worthOfWay 77 = .ok (.iaload, 1) := by decide +kernel
theorem dX10_worthOfWay_78 : decode cX10_worthOfWay 78 = .ok (.aload_n 0, 1) := by decide +kernel
theorem dX10_worthOfWay_79 : decode cX10_worthOfWay 79 = .ok (.getfield 78, 3) := by decide +kernel
theorem dX10_worthOfWay_82 : decode cX10_worthOfWay 82 = .ok (.iload_n 3, 1) := by decide +kernel
theorem dX10_worthOfWay_83 : decode cX10_worthOfWay 83 = .ok (.iconst 1, 1) := by decide +kernel
theorem dX10_worthOfWay_84 : decode cX10_worthOfWay 84 = .ok (.isub, 1) := by decide +kernel
theorem dX10_worthOfWay_85 : decode cX10_worthOfWay 85 = .ok (.iaload, 1) := by decide +kernel
theorem dX10_worthOfWay_86 : decode cX10_worthOfWay 86 = .ok (.isub, 1) := by decide +kernel
theorem dX10_worthOfWay_87 : decode cX10_worthOfWay 87 = .ok (.iconst 1, 1) := by decide +kernel
theorem dX10_worthOfWay_88 : decode cX10_worthOfWay 88 = .ok (.isub, 1) := by decide +kernel
theorem dX10_worthOfWay_89 : decode cX10_worthOfWay 89 = .ok (.istore 4, 2) := by decide +kernel
theorem dX10_worthOfWay_91 : decode cX10_worthOfWay 91 = .ok (.iload 4, 2) := by decide +kernel
theorem dX10_worthOfWay_93 : decode cX10_worthOfWay 93 = .ok (.ifCond .ne 15, 3) := by decide +kernel
theorem dX10_worthOfWay_96 : decode cX10_worthOfWay 96 = .ok (.iload_n 2, 1) := by decide +kernel
theorem dX10_worthOfWay_97 : decode cX10_worthOfWay 97 = .ok (.aload_n 0, 1) := by decide +kernel
theorem dX10_worthOfWay_98 : decode cX10_worthOfWay 98 = .ok (.getfield 28, 3) := by decide +kernel
theorem dX10_worthOfWay_101 : decode cX10_worthOfWay 101 = .ok (.iconst 1, 1) := by decide +kernel
theorem dX10_worthOfWay_102 : decode cX10_worthOfWay 102 = .ok (.iaload, 1) := by decide +kernel
theorem dX10_worthOfWay_103 : decode cX10_worthOfWay 103 = .ok (.iadd, 1) := by decide +kernel
theorem dX10_worthOfWay_104 : decode cX10_worthOfWay 104 = .ok (.istore_n 2, 1) := by decide +kernel
theorem dX10_worthOfWay_105 : decode cX10_worthOfWay 105 = .ok (.goto 25, 3) := by decide +kernel
theorem dX10_worthOfWay_108 : decode cX10_worthOfWay 108 = .ok (.aload_n 0, 1) := by decide +kernel
theorem dX10_worthOfWay_109 : decode cX10_worthOfWay 109 = .ok (.getfield 19, 3) := by decide +kernel
theorem dX10_worthOfWay_112 : decode cX10_worthOfWay 112 = .ok (.iload_n 1, 1) := by decide +kernel
theorem dX10_worthOfWay_113 : decode cX10_worthOfWay 113 = .ok (.iaload, 1) := by decide +kernel
theorem dX10_worthOfWay_114 : decode cX10_worthOfWay 114 = .ok (.iconst 3, 1) := by decide +kernel
theorem dX10_worthOfWay_115 : decode cX10_worthOfWay 115 = .ok (.if_icmp .eq 15, 3) := by decide +kernel
theorem dX10_worthOfWay_118 : decode cX10_worthOfWay 118 = .ok (.iload_n 2, 1) := by decide +kernel
theorem dX10_worthOfWay_119 : decode cX10_worthOfWay 119 = .ok (.aload_n 0, 1) := by decide +kernel
theorem dX10_worthOfWay_120 : decode cX10_worthOfWay 120 = .ok (.getfield 28, 3) := by decide +kernel
theorem dX10_worthOfWay_123 : decode cX10_worthOfWay 123 = .ok (.iconst 2, 1) := by decide +kernel
theorem dX10_worthOfWay_124 : decode cX10_worthOfWay 124 = .ok (.iaload, 1) := by decide +kernel
theorem dX10_worthOfWay_125 : decode cX10_worthOfWay 125 = .ok (.iload 4, 2) := by decide +kernel
theorem dX10_worthOfWay_127 : decode cX10_worthOfWay 127 = .ok (.imul, 1) := by decide +kernel
theorem dX10_worthOfWay_128 : decode cX10_worthOfWay 128 = .ok (.isub, 1) := by decide +kernel
theorem dX10_worthOfWay_129 : decode cX10_worthOfWay 129 = .ok (.istore_n 2, 1) := by decide +kernel
theorem dX10_worthOfWay_130 : decode cX10_worthOfWay 130 = .ok (.iinc 3 1, 3) := by decide +kernel
theorem dX10_worthOfWay_133 : decode cX10_worthOfWay 133 = .ok (.goto (-129), 3) := by decide +kernel
theorem dX10_worthOfWay_136 : decode cX10_worthOfWay 136 = .ok (.iload_n 2, 1) := by decide +kernel
theorem dX10_worthOfWay_137 : decode cX10_worthOfWay 137 = .ok (.ireturn, 1) := by decide +kernel
theorem dX10_waysOf_0 : decode cX10_waysOf 0 = .ok (.aload_n 0, 1) := by decide +kernel
theorem dX10_waysOf_1 : decode cX10_waysOf 1 = .ok (.bipush (-4), 2) := by decide +kernel
theorem dX10_waysOf_3 : decode cX10_waysOf 3 = .ok (.putfield 167, 3) := by decide +kernel
theorem dX10_waysOf_6 : decode cX10_waysOf 6 = .ok (.aload_n 0, 1) := by decide +kernel
theorem dX10_waysOf_7 : decode cX10_waysOf 7 = .ok (.getfield 160, 3) := by decide +kernel
theorem dX10_waysOf_10 : decode cX10_waysOf 10 = .ok (.aload_n 0, 1) := by decide +kernel
theorem dX10_waysOf_11 : decode cX10_waysOf 11 = .ok (.getfield 16, 3) := by decide +kernel
theorem dX10_waysOf_14 : decode cX10_waysOf 14 = .ok (.iload_n 1, 1) := by decide +kernel
theorem dX10_waysOf_15 : decode cX10_waysOf 15 = .ok (.iaload, 1) := by decide +kernel
theorem dX10_waysOf_16 : decode cX10_waysOf 16 = .ok (.if_icmp .le 5, 3) := by decide +kernel
theorem dX10_waysOf_19 : decode cX10_waysOf 19 = .ok (.iconst 0, 1) := by decide +kernel
theorem dX10_waysOf_20 : decode cX10_waysOf 20 = .ok (.ireturn, 1) := by decide +kernel
theorem dX10_waysOf_21 : decode cX10_waysOf 21 = .ok (.iconst 0, 1) := by decide +kernel
theorem dX10_waysOf_22 : decode cX10_waysOf 22 = .ok (.istore_n 2, 1) := by decide +kernel
theorem dX10_waysOf_23 : decode cX10_waysOf 23 = .ok (.iload_n 2, 1) := by decide +kernel
theorem dX10_waysOf_24 : decode cX10_waysOf 24 = .ok (.aload_n 0, 1) := by decide +kernel
theorem dX10_waysOf_25 : decode cX10_waysOf 25 = .ok (.getfield 160, 3) := by decide +kernel
theorem dX10_waysOf_28 : decode cX10_waysOf 28 = .ok (.if_icmp .ge 16, 3) := by decide +kernel
theorem dX10_waysOf_31 : decode cX10_waysOf 31 = .ok (.aload_n 0, 1) := by decide +kernel
theorem dX10_waysOf_32 : decode cX10_waysOf 32 = .ok (.getfield 78, 3) := by decide +kernel
theorem dX10_waysOf_35 : decode cX10_waysOf 35 = .ok (.iload_n 2, 1) := by decide +kernel
theorem dX10_waysOf_36 : decode cX10_waysOf 36 = .ok (.iload_n 2, 1) := by decide +kernel
theorem dX10_waysOf_37 : decode cX10_waysOf 37 = .ok (.iastore, 1) := by decide +kernel
theorem dX10_waysOf_38 : decode cX10_waysOf 38 = .ok (.iinc 2 1, 3) := by decide +kernel
theorem dX10_waysOf_41 : decode cX10_waysOf 41 = .ok (.goto (-18), 3) := by decide +kernel
theorem dX10_waysOf_44 : decode cX10_waysOf 44 = .ok (.iconst 0, 1) := by decide +kernel
theorem dX10_waysOf_45 : decode cX10_waysOf 45 = .ok (.istore_n 2, 1) := by decide +kernel
theorem dX10_waysOf_46 : decode cX10_waysOf 46 = .ok (.iconst 1, 1) := by decide +kernel
theorem dX10_waysOf_47 : decode cX10_waysOf 47 = .ok (.istore_n 3, 1) := by decide +kernel
theorem dX10_waysOf_48 : decode cX10_waysOf 48 = .ok (.iload_n 3, 1) := by decide +kernel
theorem dX10_waysOf_49 : decode cX10_waysOf 49 = .ok (.ifCond .eq 87, 3) := by decide +kernel
theorem dX10_waysOf_52 : decode cX10_waysOf 52 = .ok (.aload_n 0, 1) := by decide +kernel
theorem dX10_waysOf_53 : decode cX10_waysOf 53 = .ok (.iload_n 1, 1) := by decide +kernel
theorem dX10_waysOf_54 : decode cX10_waysOf 54 = .ok (.invokevirtual 170, 3) := by decide +kernel
theorem dX10_waysOf_57 : decode cX10_waysOf 57 = .ok (.ifCond .eq 65, 3) := by decide +kernel
theorem dX10_waysOf_60 : decode cX10_waysOf 60 = .ok (.iinc 2 1, 3) := by decide +kernel
theorem dX10_waysOf_63 : decode cX10_waysOf 63 = .ok (.aload_n 0, 1) := by decide +kernel
theorem dX10_waysOf_64 : decode cX10_waysOf 64 = .ok (.iload_n 1, 1) := by decide +kernel
theorem dX10_waysOf_65 : decode cX10_waysOf 65 = .ok (.invokevirtual 173, 3) := by decide +kernel
theorem dX10_waysOf_68 : decode cX10_waysOf 68 = .ok (.istore 4, 2) := by decide +kernel
theorem dX10_waysOf_70 : decode cX10_waysOf 70 = .ok (.iload_n 2, 1) := by decide +kernel
theorem dX10_waysOf_71 : decode cX10_waysOf 71 = .ok (.iconst 1, 1) := by decide +kernel
theorem dX10_waysOf_72 : decode cX10_waysOf 72 = .ok (.if_icmp .eq 12, 3) := by decide +kernel
theorem dX10_waysOf_75 : decode cX10_waysOf 75 = .ok (.iload 4, 2) := by decide +kernel
theorem dX10_waysOf_77 : decode cX10_waysOf 77 = .ok (.aload_n 0, 1) := by decide +kernel
theorem dX10_waysOf_78 : decode cX10_waysOf 78 = .ok (.getfield 167, 3) := by decide +kernel
theorem dX10_waysOf_81 : decode cX10_waysOf 81 = .ok (.if_icmp .le 41, 3) := by decide +kernel
theorem dX10_waysOf_84 : decode cX10_waysOf 84 = .ok (.aload_n 0, 1) := by decide +kernel
theorem dX10_waysOf_85 : decode cX10_waysOf 85 = .ok (.iload 4, 2) := by decide +kernel
theorem dX10_waysOf_87 : decode cX10_waysOf 87 = .ok (.putfield 167, 3) := by decide +kernel
theorem dX10_waysOf_90 : decode cX10_waysOf 90 = .ok (.iconst 0, 1) := by decide +kernel
theorem dX10_waysOf_91 : decode cX10_waysOf 91 = .ok (.istore 5, 2) := by decide +kernel
theorem dX10_waysOf_93 : decode cX10_waysOf 93 = .ok (.iload 5, 2) := by decide +kernel
theorem dX10_waysOf_95 : decode cX10_waysOf 95 = .ok (.aload_n 0, 1) := by decide +kernel
theorem dX10_waysOf_96 : decode cX10_waysOf 96 = .ok (.getfield 160, 3) := by decide +kernel
theorem dX10_waysOf_99 : decode cX10_waysOf 99 = .ok (.if_icmp .ge 23, 3) := by decide +kernel
theorem dX10_waysOf_102 : decode cX10_waysOf 102 = .ok (.aload_n 0, 1) := by decide +kernel
theorem dX10_waysOf_103 : decode cX10_waysOf 103 = .ok (.getfield 81, 3) := by decide +kernel
theorem dX10_waysOf_106 : decode cX10_waysOf 106 = .ok (.iload 5, 2) := by decide +kernel
theorem dX10_waysOf_108 : decode cX10_waysOf 108 = .ok (.aload_n 0, 1) := by decide +kernel
theorem dX10_waysOf_109 : decode cX10_waysOf 109 = .ok (.getfield 78, 3) := by decide +kernel
theorem dX10_waysOf_112 : decode cX10_waysOf 112 = .ok (.iload 5, 2) := by decide +kernel
theorem dX10_waysOf_114 : decode cX10_waysOf 114 = .ok (.iaload, 1) := by decide +kernel
theorem dX10_waysOf_115 : decode cX10_waysOf 115 = .ok (.iastore, 1) := by decide +kernel
theorem dX10_waysOf_116 : decode cX10_waysOf 116 = .ok (.iinc 5 1, 3) := by decide +kernel
theorem dX10_waysOf_119 : decode cX10_waysOf 119 = .ok (.goto (-26), 3) := by decide +kernel
theorem dX10_waysOf_122 : decode cX10_waysOf 122 = .ok (.aload_n 0, 1) := by decide +kernel
theorem dX10_waysOf_123 : decode cX10_waysOf 123 = .ok (.aload_n 0, 1) := by decide +kernel
theorem dX10_waysOf_124 : decode cX10_waysOf 124 = .ok (.getfield 16, 3) := by decide +kernel
theorem dX10_waysOf_127 : decode cX10_waysOf 127 = .ok (.iload_n 1, 1) := by decide +kernel
theorem dX10_waysOf_128 : decode cX10_waysOf 128 = .ok (.iaload, 1) := by decide +kernel
theorem dX10_waysOf_129 : decode cX10_waysOf 129 = .ok (.invokevirtual 176, 3) := by decide +kernel
theorem dX10_waysOf_132 : decode cX10_waysOf 132 = .ok (.istore_n 3, 1) := by decide +kernel
theorem dX10_waysOf_133 : decode cX10_waysOf 133 = .ok (.goto (-85), 3) := by decide +kernel
theorem dX10_waysOf_136 : decode cX10_waysOf 136 = .ok (.iload_n 2, 1) := by decide +kernel
theorem dX10_waysOf_137 : decode cX10_waysOf 137 = .ok (.ireturn, 1) := by decide +kernel
theorem dX10_triesWord_0 : decode cX10_triesWord 0 = .ok (.aload_n 0, 1) := by decide +kernel
theorem dX10_triesWord_1 : decode cX10_triesWord 1 = .ok (.aload_n 0, 1) := by decide +kernel
theorem dX10_triesWord_2 : decode cX10_triesWord 2 = .ok (.getfield 139, 3) := by decide +kernel
theorem dX10_triesWord_5 : decode cX10_triesWord 5 = .ok (.putfield 160, 3) := by decide +kernel
theorem dX10_triesWord_8 : decode cX10_triesWord 8 = .ok (.iconst 0, 1) := by decide +kernel
theorem dX10_triesWord_9 : decode cX10_triesWord 9 = .ok (.istore_n 1, 1) := by decide +kernel
theorem dX10_triesWord_10 : decode cX10_triesWord 10 = .ok (.iload_n 1, 1) := by decide +kernel
theorem dX10_triesWord_11 : decode cX10_triesWord 11 = .ok (.aload_n 0, 1) := by decide +kernel
theorem dX10_triesWord_12 : decode cX10_triesWord 12 = .ok (.getfield 139, 3) := by decide +kernel
theorem dX10_triesWord_15 : decode cX10_triesWord 15 = .ok (.if_icmp .ge 21, 3) := by decide +kernel
theorem dX10_triesWord_18 : decode cX10_triesWord 18 = .ok (.aload_n 0, 1) := by decide +kernel
theorem dX10_triesWord_19 : decode cX10_triesWord 19 = .ok (.getfield 75, 3) := by decide +kernel
theorem dX10_triesWord_22 : decode cX10_triesWord 22 = .ok (.iload_n 1, 1) := by decide +kernel
theorem dX10_triesWord_23 : decode cX10_triesWord 23 = .ok (.aload_n 0, 1) := by decide +kernel
theorem dX10_triesWord_24 : decode cX10_triesWord 24 = .ok (.getfield 43, 3) := by decide +kernel
theorem dX10_triesWord_27 : decode cX10_triesWord 27 = .ok (.iload_n 1, 1) := by decide +kernel
theorem dX10_triesWord_28 : decode cX10_triesWord 28 = .ok (.iaload, 1) := by decide +kernel
theorem dX10_triesWord_29 : decode cX10_triesWord 29 = .ok (.iastore, 1) := by decide +kernel
theorem dX10_triesWord_30 : decode cX10_triesWord 30 = .ok (.iinc 1 1, 3) := by decide +kernel
theorem dX10_triesWord_33 : decode cX10_triesWord 33 = .ok (.goto (-23), 3) := by decide +kernel
theorem dX10_triesWord_36 : decode cX10_triesWord 36 = .ok (.return_, 1) := by decide +kernel
theorem dX10_has_0 : decode cX10_has 0 = .ok (.iconst 0, 1) := by decide +kernel
theorem dX10_has_1 : decode cX10_has 1 = .ok (.istore_n 3, 1) := by decide +kernel
theorem dX10_has_2 : decode cX10_has 2 = .ok (.iload_n 3, 1) := by decide +kernel
theorem dX10_has_3 : decode cX10_has 3 = .ok (.aload_n 0, 1) := by decide +kernel
theorem dX10_has_4 : decode cX10_has 4 = .ok (.getfield 16, 3) := by decide +kernel
theorem dX10_has_7 : decode cX10_has 7 = .ok (.iload_n 1, 1) := by decide +kernel
theorem dX10_has_8 : decode cX10_has 8 = .ok (.iaload, 1) := by decide +kernel
theorem dX10_has_9 : decode cX10_has 9 = .ok (.if_icmp .ge 29, 3) := by decide +kernel
theorem dX10_has_12 : decode cX10_has 12 = .ok (.aload_n 0, 1) := by decide +kernel
theorem dX10_has_13 : decode cX10_has 13 = .ok (.getfield 13, 3) := by decide +kernel
theorem dX10_has_16 : decode cX10_has 16 = .ok (.bipush 12, 2) := by decide +kernel
theorem dX10_has_18 : decode cX10_has 18 = .ok (.iload_n 1, 1) := by decide +kernel
theorem dX10_has_19 : decode cX10_has 19 = .ok (.imul, 1) := by decide +kernel
theorem dX10_has_20 : decode cX10_has 20 = .ok (.iload_n 3, 1) := by decide +kernel
theorem dX10_has_21 : decode cX10_has 21 = .ok (.iadd, 1) := by decide +kernel
theorem dX10_has_22 : decode cX10_has 22 = .ok (.iaload, 1) := by decide +kernel
theorem dX10_has_23 : decode cX10_has 23 = .ok (.invokestatic 157, 3) := by decide +kernel
theorem dX10_has_26 : decode cX10_has 26 = .ok (.iload_n 2, 1) := by decide +kernel
theorem dX10_has_27 : decode cX10_has 27 = .ok (.if_icmp .ne 5, 3) := by decide +kernel
theorem dX10_has_30 : decode cX10_has 30 = .ok (.iconst 1, 1) := by decide +kernel
theorem dX10_has_31 : decode cX10_has 31 = .ok (.ireturn, 1) := by decide +kernel
theorem dX10_has_32 : decode cX10_has 32 = .ok (.iinc 3 1, 3) := by decide +kernel
theorem dX10_has_35 : decode cX10_has 35 = .ok (.goto (-33), 3) := by decide +kernel
theorem dX10_has_38 : decode cX10_has 38 = .ok (.iconst 0, 1) := by decide +kernel
theorem dX10_has_39 : decode cX10_has 39 = .ok (.ireturn, 1) := by decide +kernel
theorem dX10_passing_0 : decode cX10_passing 0 = .ok (.iconst 0, 1) := by decide +kernel
theorem dX10_passing_1 : decode cX10_passing 1 = .ok (.istore_n 2, 1) := by decide +kernel
theorem dX10_passing_2 : decode cX10_passing 2 = .ok (.iload_n 2, 1) := by decide +kernel
theorem dX10_passing_3 : decode cX10_passing 3 = .ok (.aload_n 0, 1) := by decide +kernel
theorem dX10_passing_4 : decode cX10_passing 4 = .ok (.getfield 139, 3) := by decide +kernel
theorem dX10_passing_7 : decode cX10_passing 7 = .ok (.if_icmp .ge 28, 3) := by decide +kernel
theorem dX10_passing_10 : decode cX10_passing 10 = .ok (.aload_n 0, 1) := by decide +kernel
theorem dX10_passing_11 : decode cX10_passing 11 = .ok (.iload_n 1, 1) := by decide +kernel
theorem dX10_passing_12 : decode cX10_passing 12 = .ok (.aload_n 0, 1) := by decide +kernel
theorem dX10_passing_13 : decode cX10_passing 13 = .ok (.getfield 43, 3) := by decide +kernel
theorem dX10_passing_16 : decode cX10_passing 16 = .ok (.iload_n 2, 1) := by decide +kernel
theorem dX10_passing_17 : decode cX10_passing 17 = .ok (.iaload, 1) := by decide +kernel
theorem dX10_passing_18 : decode cX10_passing 18 = .ok (.invokestatic 157, 3) := by decide +kernel
theorem dX10_passing_21 : decode cX10_passing 21 = .ok (.invokevirtual 179, 3) := by decide +kernel
theorem dX10_passing_24 : decode cX10_passing 24 = .ok (.ifCond .ne 5, 3) := by decide +kernel
theorem dX10_passing_27 : decode cX10_passing 27 = .ok (.iconst 0, 1) := by decide +kernel
theorem dX10_passing_28 : decode cX10_passing 28 = .ok (.ireturn, 1) := by decide +kernel
theorem dX10_passing_29 : decode cX10_passing 29 = .ok (.iinc 2 1, 3) := by decide +kernel
theorem dX10_passing_32 : decode cX10_passing 32 = .ok (.goto (-30), 3) := by decide +kernel
theorem dX10_passing_35 : decode cX10_passing 35 = .ok (.iconst 1, 1) := by decide +kernel
theorem dX10_passing_36 : decode cX10_passing 36 = .ok (.ireturn, 1) := by decide +kernel
theorem dX10_sought_0 : decode cX10_sought 0 = .ok (.aload_n 0, 1) := by decide +kernel
theorem dX10_sought_1 : decode cX10_sought 1 = .ok (.invokevirtual 182, 3) := by decide +kernel
theorem dX10_sought_4 : decode cX10_sought 4 = .ok (.lstore_n 2, 1) := by decide +kernel
theorem dX10_sought_5 : decode cX10_sought 5 = .ok (.ldc2_w 186, 3) := by decide +kernel
theorem dX10_sought_8 : decode cX10_sought 8 = .ok (.aload_n 0, 1) := by decide +kernel
theorem dX10_sought_9 : decode cX10_sought 9 = .ok (.getfield 22, 3) := by decide +kernel
theorem dX10_sought_12 : decode cX10_sought 12 = .ok (.iload_n 1, 1) := by decide +kernel
theorem dX10_sought_13 : decode cX10_sought 13 = .ok (.iaload, 1) := by decide +kernel
theorem dX10_sought_14 : decode cX10_sought 14 = .ok (.i2l, 1) := by decide +kernel
theorem dX10_sought_15 : decode cX10_sought 15 = .ok (.lmul, 1) := by decide +kernel
theorem dX10_sought_16 : decode cX10_sought 16 = .ok (.ldc2_w 188, 3) := by decide +kernel
theorem dX10_sought_19 : decode cX10_sought 19 = .ok (.lload_n 2, 1) := by decide +kernel
theorem dX10_sought_20 : decode cX10_sought 20 = .ok (.lmul, 1) := by decide +kernel
theorem dX10_sought_21 : decode cX10_sought 21 = .ok (.ladd, 1) := by decide +kernel
theorem dX10_sought_22 : decode cX10_sought 22 = .ok (.aload_n 0, 1) := by decide +kernel
theorem dX10_sought_23 : decode cX10_sought 23 = .ok (.getfield 52, 3) := by decide +kernel
theorem dX10_sought_26 : decode cX10_sought 26 = .ok (.i2l, 1) := by decide +kernel
theorem dX10_sought_27 : decode cX10_sought 27 = .ok (.ladd, 1) := by decide +kernel
theorem dX10_sought_28 : decode cX10_sought 28 = .ok (.ldc2_w 190, 3) := by decide +kernel
theorem dX10_sought_31 : decode cX10_sought 31 = .ok (.lrem, 1) := by decide +kernel
theorem dX10_sought_32 : decode cX10_sought 32 = .ok (.l2i, 1) := by decide +kernel
theorem dX10_sought_33 : decode cX10_sought 33 = .ok (.istore 4, 2) := by decide +kernel
theorem dX10_sought_35 : decode cX10_sought 35 = .ok (.aload_n 0, 1) := by decide +kernel
theorem dX10_sought_36 : decode cX10_sought 36 = .ok (.getfield 63, 3) := by decide +kernel
theorem dX10_sought_39 : decode cX10_sought 39 = .ok (.iload 4, 2) := by decide +kernel
theorem dX10_sought_41 : decode cX10_sought 41 = .ok (.iaload, 1) := by decide +kernel
theorem dX10_sought_42 : decode cX10_sought 42 = .ok (.aload_n 0, 1) := by decide +kernel
theorem dX10_sought_43 : decode cX10_sought 43 = .ok (.getfield 22, 3) := by decide +kernel
theorem dX10_sought_46 : decode cX10_sought 46 = .ok (.iload_n 1, 1) := by decide +kernel
theorem dX10_sought_47 : decode cX10_sought 47 = .ok (.iaload, 1) := by decide +kernel
theorem dX10_sought_48 : decode cX10_sought 48 = .ok (.if_icmp .ne 47, 3) := by decide +kernel
theorem dX10_sought_51 : decode cX10_sought 51 = .ok (.aload_n 0, 1) := by decide +kernel
theorem dX10_sought_52 : decode cX10_sought 52 = .ok (.getfield 66, 3) := by decide +kernel
theorem dX10_sought_55 : decode cX10_sought 55 = .ok (.iload 4, 2) := by decide +kernel
theorem dX10_sought_57 : decode cX10_sought 57 = .ok (.laload, 1) := by decide +kernel
theorem dX10_sought_58 : decode cX10_sought 58 = .ok (.lload_n 2, 1) := by decide +kernel
theorem dX10_sought_59 : decode cX10_sought 59 = .ok (.lcmp, 1) := by decide +kernel
theorem dX10_sought_60 : decode cX10_sought 60 = .ok (.ifCond .ne 35, 3) := by decide +kernel
theorem dX10_sought_63 : decode cX10_sought 63 = .ok (.aload_n 0, 1) := by decide +kernel
theorem dX10_sought_64 : decode cX10_sought 64 = .ok (.getfield 69, 3) := by decide +kernel
theorem dX10_sought_67 : decode cX10_sought 67 = .ok (.iload 4, 2) := by decide +kernel
theorem dX10_sought_69 : decode cX10_sought 69 = .ok (.iaload, 1) := by decide +kernel
theorem dX10_sought_70 : decode cX10_sought 70 = .ok (.aload_n 0, 1) := by decide +kernel
theorem dX10_sought_71 : decode cX10_sought 71 = .ok (.getfield 52, 3) := by decide +kernel
theorem dX10_sought_74 : decode cX10_sought 74 = .ok (.if_icmp .ne 21, 3) := by decide +kernel
theorem dX10_sought_77 : decode cX10_sought 77 = .ok (.aload_n 0, 1) := by decide +kernel
theorem dX10_sought_78 : decode cX10_sought 78 = .ok (.dup, 1) := by decide +kernel
theorem dX10_sought_79 : decode cX10_sought 79 = .ok (.getfield 192, 3) := by decide +kernel
theorem dX10_sought_82 : decode cX10_sought 82 = .ok (.iconst 1, 1) := by decide +kernel
theorem dX10_sought_83 : decode cX10_sought 83 = .ok (.iadd, 1) := by decide +kernel
theorem dX10_sought_84 : decode cX10_sought 84 = .ok (.putfield 192, 3) := by decide +kernel
theorem dX10_sought_87 : decode cX10_sought 87 = .ok (.aload_n 0, 1) := by decide +kernel
theorem dX10_sought_88 : decode cX10_sought 88 = .ok (.getfield 72, 3) := by decide +kernel
theorem dX10_sought_91 : decode cX10_sought 91 = .ok (.iload 4, 2) := by decide +kernel
theorem dX10_sought_93 : decode cX10_sought 93 = .ok (.iaload, 1) := by decide +kernel
theorem dX10_sought_94 : decode cX10_sought 94 = .ok (.ireturn, 1) := by decide +kernel
theorem dX10_sought_95 : decode cX10_sought 95 = .ok (.aload_n 0, 1) := by decide +kernel
theorem dX10_sought_96 : decode cX10_sought 96 = .ok (.dup, 1) := by decide +kernel
theorem dX10_sought_97 : decode cX10_sought 97 = .ok (.getfield 195, 3) := by decide +kernel
theorem dX10_sought_100 : decode cX10_sought 100 = .ok (.iconst 1, 1) := by decide +kernel
theorem dX10_sought_101 : decode cX10_sought 101 = .ok (.iadd, 1) := by decide +kernel
theorem dX10_sought_102 : decode cX10_sought 102 = .ok (.putfield 195, 3) := by decide +kernel
theorem dX10_sought_105 : decode cX10_sought 105 = .ok (.aload_n 0, 1) := by decide +kernel
theorem dX10_sought_106 : decode cX10_sought 106 = .ok (.invokevirtual 198, 3) := by decide +kernel
theorem dX10_sought_109 : decode cX10_sought 109 = .ok (.aload_n 0, 1) := by decide +kernel
theorem dX10_sought_110 : decode cX10_sought 110 = .ok (.iload_n 1, 1) := by decide +kernel
theorem dX10_sought_111 : decode cX10_sought 111 = .ok (.invokevirtual 201, 3) := by decide +kernel
theorem dX10_sought_114 : decode cX10_sought 114 = .ok (.pop, 1) := by decide +kernel
theorem dX10_sought_115 : decode cX10_sought 115 = .ok (.aload_n 0, 1) := by decide +kernel
theorem dX10_sought_116 : decode cX10_sought 116 = .ok (.getfield 63, 3) := by decide +kernel
theorem dX10_sought_119 : decode cX10_sought 119 = .ok (.iload 4, 2) := by decide +kernel
theorem dX10_sought_121 : decode cX10_sought 121 = .ok (.aload_n 0, 1) := by decide +kernel
theorem dX10_sought_122 : decode cX10_sought 122 = .ok (.getfield 22, 3) := by decide +kernel
theorem dX10_sought_125 : decode cX10_sought 125 = .ok (.iload_n 1, 1) := by decide +kernel
theorem dX10_sought_126 : decode cX10_sought 126 = .ok (.iaload, 1) := by decide +kernel
theorem dX10_sought_127 : decode cX10_sought 127 = .ok (.iastore, 1) := by decide +kernel
theorem dX10_sought_128 : decode cX10_sought 128 = .ok (.aload_n 0, 1) := by decide +kernel
theorem dX10_sought_129 : decode cX10_sought 129 = .ok (.getfield 66, 3) := by decide +kernel
theorem dX10_sought_132 : decode cX10_sought 132 = .ok (.iload 4, 2) := by decide +kernel
theorem dX10_sought_134 : decode cX10_sought 134 = .ok (.lload_n 2, 1) := by decide +kernel
theorem dX10_sought_135 : decode cX10_sought 135 = .ok (.lastore, 1) := by decide +kernel
theorem dX10_sought_136 : decode cX10_sought 136 = .ok (.aload_n 0, 1) := by decide +kernel
theorem dX10_sought_137 : decode cX10_sought 137 = .ok (.getfield 69, 3) := by decide +kernel
theorem dX10_sought_140 : decode cX10_sought 140 = .ok (.iload 4, 2) := by decide +kernel
theorem dX10_sought_142 : decode cX10_sought 142 = .ok (.aload_n 0, 1) := by decide +kernel
theorem dX10_sought_143 : decode cX10_sought 143 = .ok (.getfield 52, 3) := by decide +kernel
theorem dX10_sought_146 : decode cX10_sought 146 = .ok (.iastore, 1) := by decide +kernel
theorem dX10_sought_147 : decode cX10_sought 147 = .ok (.aload_n 0, 1) := by decide +kernel
theorem dX10_sought_148 : decode cX10_sought 148 = .ok (.getfield 72, 3) := by decide +kernel
theorem dX10_sought_151 : decode cX10_sought 151 = .ok (.iload 4, 2) := by decide +kernel
theorem dX10_sought_153 : decode cX10_sought 153 = .ok (.aload_n 0, 1) := by decide +kernel
theorem dX10_sought_154 : decode cX10_sought 154 = .ok (.getfield 167, 3) := by decide +kernel
theorem dX10_sought_157 : decode cX10_sought 157 = .ok (.iastore, 1) := by decide +kernel
theorem dX10_sought_158 : decode cX10_sought 158 = .ok (.aload_n 0, 1) := by decide +kernel
theorem dX10_sought_159 : decode cX10_sought 159 = .ok (.getfield 167, 3) := by decide +kernel
theorem dX10_sought_162 : decode cX10_sought 162 = .ok (.ireturn, 1) := by decide +kernel
theorem dX10_score_0 : decode cX10_score 0 = .ok (.aload_n 0, 1) := by decide +kernel
theorem dX10_score_1 : decode cX10_score 1 = .ok (.iload_n 1, 1) := by decide +kernel
theorem dX10_score_2 : decode cX10_score 2 = .ok (.invokevirtual 145, 3) := by decide +kernel
theorem dX10_score_5 : decode cX10_score 5 = .ok (.ifCond .eq 11, 3) := by decide +kernel
theorem dX10_score_8 : decode cX10_score 8 = .ok (.aload_n 0, 1) := by decide +kernel
theorem dX10_score_9 : decode cX10_score 9 = .ok (.iload_n 1, 1) := by decide +kernel
theorem dX10_score_10 : decode cX10_score 10 = .ok (.invokevirtual 204, 3) := by decide +kernel
theorem dX10_score_13 : decode cX10_score 13 = .ok (.goto 4, 3) := by decide +kernel
theorem dX10_score_16 : decode cX10_score 16 = .ok (.iconst (-1), 1) := by decide +kernel
theorem dX10_score_17 : decode cX10_score 17 = .ok (.ireturn, 1) := by decide +kernel
theorem dX10_isAhead_0 : decode cX10_isAhead 0 = .ok (.aload_n 0, 1) := by decide +kernel
theorem dX10_isAhead_1 : decode cX10_isAhead 1 = .ok (.getfield 84, 3) := by decide +kernel
theorem dX10_isAhead_4 : decode cX10_isAhead 4 = .ok (.iload_n 1, 1) := by decide +kernel
theorem dX10_isAhead_5 : decode cX10_isAhead 5 = .ok (.iaload, 1) := by decide +kernel
theorem dX10_isAhead_6 : decode cX10_isAhead 6 = .ok (.aload_n 0, 1) := by decide +kernel
theorem dX10_isAhead_7 : decode cX10_isAhead 7 = .ok (.getfield 84, 3) := by decide +kernel
theorem dX10_isAhead_10 : decode cX10_isAhead 10 = .ok (.iload_n 2, 1) := by decide +kernel
theorem dX10_isAhead_11 : decode cX10_isAhead 11 = .ok (.iaload, 1) := by decide +kernel
theorem dX10_isAhead_12 : decode cX10_isAhead 12 = .ok (.if_icmp .eq 24, 3) := by decide +kernel
theorem dX10_isAhead_15 : decode cX10_isAhead 15 = .ok (.aload_n 0, 1) := by decide +kernel
theorem dX10_isAhead_16 : decode cX10_isAhead 16 = .ok (.getfield 84, 3) := by decide +kernel
theorem dX10_isAhead_19 : decode cX10_isAhead 19 = .ok (.iload_n 1, 1) := by decide +kernel
theorem dX10_isAhead_20 : decode cX10_isAhead 20 = .ok (.iaload, 1) := by decide +kernel
theorem dX10_isAhead_21 : decode cX10_isAhead 21 = .ok (.aload_n 0, 1) := by decide +kernel
theorem dX10_isAhead_22 : decode cX10_isAhead 22 = .ok (.getfield 84, 3) := by decide +kernel
theorem dX10_isAhead_25 : decode cX10_isAhead 25 = .ok (.iload_n 2, 1) := by decide +kernel
theorem dX10_isAhead_26 : decode cX10_isAhead 26 = .ok (.iaload, 1) := by decide +kernel
theorem dX10_isAhead_27 : decode cX10_isAhead 27 = .ok (.if_icmp .le 7, 3) := by decide +kernel
theorem dX10_isAhead_30 : decode cX10_isAhead 30 = .ok (.iconst 1, 1) := by decide +kernel
theorem dX10_isAhead_31 : decode cX10_isAhead 31 = .ok (.goto 4, 3) := by decide +kernel
theorem dX10_isAhead_34 : decode cX10_isAhead 34 = .ok (.iconst 0, 1) := by decide +kernel
theorem dX10_isAhead_35 : decode cX10_isAhead 35 = .ok (.ireturn, 1) := by decide +kernel
theorem dX10_isAhead_36 : decode cX10_isAhead 36 = .ok (.aload_n 0, 1) := by decide +kernel
theorem dX10_isAhead_37 : decode cX10_isAhead 37 = .ok (.getfield 25, 3) := by decide +kernel
theorem dX10_isAhead_40 : decode cX10_isAhead 40 = .ok (.iload_n 1, 1) := by decide +kernel
theorem dX10_isAhead_41 : decode cX10_isAhead 41 = .ok (.iaload, 1) := by decide +kernel
theorem dX10_isAhead_42 : decode cX10_isAhead 42 = .ok (.aload_n 0, 1) := by decide +kernel
theorem dX10_isAhead_43 : decode cX10_isAhead 43 = .ok (.getfield 25, 3) := by decide +kernel
theorem dX10_isAhead_46 : decode cX10_isAhead 46 = .ok (.iload_n 2, 1) := by decide +kernel
theorem dX10_isAhead_47 : decode cX10_isAhead 47 = .ok (.iaload, 1) := by decide +kernel
theorem dX10_isAhead_48 : decode cX10_isAhead 48 = .ok (.if_icmp .eq 24, 3) := by decide +kernel
theorem dX10_isAhead_51 : decode cX10_isAhead 51 = .ok (.aload_n 0, 1) := by decide +kernel
theorem dX10_isAhead_52 : decode cX10_isAhead 52 = .ok (.getfield 25, 3) := by decide +kernel
theorem dX10_isAhead_55 : decode cX10_isAhead 55 = .ok (.iload_n 1, 1) := by decide +kernel
theorem dX10_isAhead_56 : decode cX10_isAhead 56 = .ok (.iaload, 1) := by decide +kernel
theorem dX10_isAhead_57 : decode cX10_isAhead 57 = .ok (.aload_n 0, 1) := by decide +kernel
theorem dX10_isAhead_58 : decode cX10_isAhead 58 = .ok (.getfield 25, 3) := by decide +kernel
theorem dX10_isAhead_61 : decode cX10_isAhead 61 = .ok (.iload_n 2, 1) := by decide +kernel
theorem dX10_isAhead_62 : decode cX10_isAhead 62 = .ok (.iaload, 1) := by decide +kernel
theorem dX10_isAhead_63 : decode cX10_isAhead 63 = .ok (.if_icmp .le 7, 3) := by decide +kernel
theorem dX10_isAhead_66 : decode cX10_isAhead 66 = .ok (.iconst 1, 1) := by decide +kernel
theorem dX10_isAhead_67 : decode cX10_isAhead 67 = .ok (.goto 4, 3) := by decide +kernel
theorem dX10_isAhead_70 : decode cX10_isAhead 70 = .ok (.iconst 0, 1) := by decide +kernel
theorem dX10_isAhead_71 : decode cX10_isAhead 71 = .ok (.ireturn, 1) := by decide +kernel
theorem dX10_isAhead_72 : decode cX10_isAhead 72 = .ok (.aload_n 0, 1) := by decide +kernel
theorem dX10_isAhead_73 : decode cX10_isAhead 73 = .ok (.getfield 16, 3) := by decide +kernel
theorem dX10_isAhead_76 : decode cX10_isAhead 76 = .ok (.iload_n 1, 1) := by decide +kernel
theorem dX10_isAhead_77 : decode cX10_isAhead 77 = .ok (.iaload, 1) := by decide +kernel
theorem dX10_isAhead_78 : decode cX10_isAhead 78 = .ok (.aload_n 0, 1) := by decide +kernel
theorem dX10_isAhead_79 : decode cX10_isAhead 79 = .ok (.getfield 16, 3) := by decide +kernel
theorem dX10_isAhead_82 : decode cX10_isAhead 82 = .ok (.iload_n 2, 1) := by decide +kernel
theorem dX10_isAhead_83 : decode cX10_isAhead 83 = .ok (.iaload, 1) := by decide +kernel
theorem dX10_isAhead_84 : decode cX10_isAhead 84 = .ok (.if_icmp .eq 24, 3) := by decide +kernel
theorem dX10_isAhead_87 : decode cX10_isAhead 87 = .ok (.aload_n 0, 1) := by decide +kernel
theorem dX10_isAhead_88 : decode cX10_isAhead 88 = .ok (.getfield 16, 3) := by decide +kernel
theorem dX10_isAhead_91 : decode cX10_isAhead 91 = .ok (.iload_n 1, 1) := by decide +kernel
theorem dX10_isAhead_92 : decode cX10_isAhead 92 = .ok (.iaload, 1) := by decide +kernel
theorem dX10_isAhead_93 : decode cX10_isAhead 93 = .ok (.aload_n 0, 1) := by decide +kernel
theorem dX10_isAhead_94 : decode cX10_isAhead 94 = .ok (.getfield 16, 3) := by decide +kernel
theorem dX10_isAhead_97 : decode cX10_isAhead 97 = .ok (.iload_n 2, 1) := by decide +kernel
theorem dX10_isAhead_98 : decode cX10_isAhead 98 = .ok (.iaload, 1) := by decide +kernel
theorem dX10_isAhead_99 : decode cX10_isAhead 99 = .ok (.if_icmp .ge 7, 3) := by decide +kernel
theorem dX10_isAhead_102 : decode cX10_isAhead 102 = .ok (.iconst 1, 1) := by decide +kernel
theorem dX10_isAhead_103 : decode cX10_isAhead 103 = .ok (.goto 4, 3) := by decide +kernel
theorem dX10_isAhead_106 : decode cX10_isAhead 106 = .ok (.iconst 0, 1) := by decide +kernel
theorem dX10_isAhead_107 : decode cX10_isAhead 107 = .ok (.ireturn, 1) := by decide +kernel
theorem dX10_isAhead_108 : decode cX10_isAhead 108 = .ok (.iload_n 1, 1) := by decide +kernel
theorem dX10_isAhead_109 : decode cX10_isAhead 109 = .ok (.iload_n 2, 1) := by decide +kernel
theorem dX10_isAhead_110 : decode cX10_isAhead 110 = .ok (.if_icmp .ge 7, 3) := by decide +kernel
theorem dX10_isAhead_113 : decode cX10_isAhead 113 = .ok (.iconst 1, 1) := by decide +kernel
theorem dX10_isAhead_114 : decode cX10_isAhead 114 = .ok (.goto 4, 3) := by decide +kernel
theorem dX10_isAhead_117 : decode cX10_isAhead 117 = .ok (.iconst 0, 1) := by decide +kernel
theorem dX10_isAhead_118 : decode cX10_isAhead 118 = .ok (.ireturn, 1) := by decide +kernel
theorem dX10_aheadOf_0 : decode cX10_aheadOf 0 = .ok (.iconst 0, 1) := by decide +kernel
theorem dX10_aheadOf_1 : decode cX10_aheadOf 1 = .ok (.istore_n 2, 1) := by decide +kernel
theorem dX10_aheadOf_2 : decode cX10_aheadOf 2 = .ok (.iconst 0, 1) := by decide +kernel
theorem dX10_aheadOf_3 : decode cX10_aheadOf 3 = .ok (.istore_n 3, 1) := by decide +kernel
theorem dX10_aheadOf_4 : decode cX10_aheadOf 4 = .ok (.iload_n 3, 1) := by decide +kernel
theorem dX10_aheadOf_5 : decode cX10_aheadOf 5 = .ok (.aload_n 0, 1) := by decide +kernel
theorem dX10_aheadOf_6 : decode cX10_aheadOf 6 = .ok (.getfield 99, 3) := by decide +kernel
theorem dX10_aheadOf_9 : decode cX10_aheadOf 9 = .ok (.if_icmp .ge 37, 3) := by decide +kernel
theorem dX10_aheadOf_12 : decode cX10_aheadOf 12 = .ok (.iload_n 3, 1) := by decide +kernel
theorem dX10_aheadOf_13 : decode cX10_aheadOf 13 = .ok (.iload_n 1, 1) := by decide +kernel
theorem dX10_aheadOf_14 : decode cX10_aheadOf 14 = .ok (.if_icmp .eq 26, 3) := by decide +kernel
theorem dX10_aheadOf_17 : decode cX10_aheadOf 17 = .ok (.aload_n 0, 1) := by decide +kernel
theorem dX10_aheadOf_18 : decode cX10_aheadOf 18 = .ok (.getfield 84, 3) := by decide +kernel
theorem dX10_aheadOf_21 : decode cX10_aheadOf 21 = .ok (.iload_n 3, 1) := by decide +kernel
theorem dX10_aheadOf_22 : decode cX10_aheadOf 22 = .ok (.iaload, 1) := by decide +kernel
theorem dX10_aheadOf_23 : decode cX10_aheadOf 23 = .ok (.bipush (-4), 2) := by decide +kernel
theorem dX10_aheadOf_25 : decode cX10_aheadOf 25 = .ok (.if_icmp .eq 15, 3) := by decide +kernel
theorem dX10_aheadOf_28 : decode cX10_aheadOf 28 = .ok (.aload_n 0, 1) := by decide +kernel
theorem dX10_aheadOf_29 : decode cX10_aheadOf 29 = .ok (.iload_n 3, 1) := by decide +kernel
theorem dX10_aheadOf_30 : decode cX10_aheadOf 30 = .ok (.iload_n 1, 1) := by decide +kernel
theorem dX10_aheadOf_31 : decode cX10_aheadOf 31 = .ok (.invokevirtual 207, 3) := by decide +kernel
theorem dX10_aheadOf_34 : decode cX10_aheadOf 34 = .ok (.ifCond .eq 6, 3) := by decide +kernel
theorem dX10_aheadOf_37 : decode cX10_aheadOf 37 = .ok (.iinc 2 1, 3) := by decide +kernel
theorem dX10_aheadOf_40 : decode cX10_aheadOf 40 = .ok (.iinc 3 1, 3) := by decide +kernel
theorem dX10_aheadOf_43 : decode cX10_aheadOf 43 = .ok (.goto (-39), 3) := by decide +kernel
theorem dX10_aheadOf_46 : decode cX10_aheadOf 46 = .ok (.iload_n 2, 1) := by decide +kernel
theorem dX10_aheadOf_47 : decode cX10_aheadOf 47 = .ok (.ireturn, 1) := by decide +kernel
theorem dX10_list_0 : decode cX10_list 0 = .ok (.iload_n 1, 1) := by decide +kernel
theorem dX10_list_1 : decode cX10_list 1 = .ok (.iconst (-1), 1) := by decide +kernel
theorem dX10_list_2 : decode cX10_list 2 = .ok (.if_icmp .ge 5, 3) := by decide +kernel
theorem dX10_list_5 : decode cX10_list 5 = .ok (.iconst (-1), 1) := by decide +kernel
theorem dX10_list_6 : decode cX10_list 6 = .ok (.ireturn, 1) := by decide +kernel
theorem dX10_list_7 : decode cX10_list 7 = .ok (.iload_n 1, 1) := by decide +kernel
theorem dX10_list_8 : decode cX10_list 8 = .ok (.iconst (-1), 1) := by decide +kernel
theorem dX10_list_9 : decode cX10_list 9 = .ok (.if_icmp .ne 58, 3) := by decide +kernel
theorem dX10_list_12 : decode cX10_list 12 = .ok (.iconst 5, 1) := by decide +kernel
theorem dX10_list_13 : decode cX10_list 13 = .ok (.istore_n 2, 1) := by decide +kernel
theorem dX10_list_14 : decode cX10_list 14 = .ok (.iload_n 2, 1) := by decide +kernel
theorem dX10_list_15 : decode cX10_list 15 = .ok (.ifCond .le 23, 3) := by decide +kernel
theorem dX10_list_18 : decode cX10_list 18 = .ok (.aload_n 0, 1) := by decide +kernel
theorem dX10_list_19 : decode cX10_list 19 = .ok (.getfield 59, 3) := by decide +kernel
theorem dX10_list_22 : decode cX10_list 22 = .ok (.iload_n 2, 1) := by decide +kernel
theorem dX10_list_23 : decode cX10_list 23 = .ok (.aload_n 0, 1) := by decide +kernel
theorem dX10_list_24 : decode cX10_list 24 = .ok (.getfield 59, 3) := by decide +kernel
theorem dX10_list_27 : decode cX10_list 27 = .ok (.iload_n 2, 1) := by decide +kernel
theorem dX10_list_28 : decode cX10_list 28 = .ok (.iconst 1, 1) := by decide +kernel
theorem dX10_list_29 : decode cX10_list 29 = .ok (.isub, 1) := by decide +kernel
theorem dX10_list_30 : decode cX10_list 30 = .ok (.laload, 1) := by decide +kernel
theorem dX10_list_31 : decode cX10_list 31 = .ok (.lastore, 1) := by decide +kernel
theorem dX10_list_32 : decode cX10_list 32 = .ok (.iinc 2 (-1), 3) := by decide +kernel
theorem dX10_list_35 : decode cX10_list 35 = .ok (.goto (-21), 3) := by decide +kernel
theorem dX10_list_38 : decode cX10_list 38 = .ok (.aload_n 0, 1) := by decide +kernel
theorem dX10_list_39 : decode cX10_list 39 = .ok (.getfield 59, 3) := by decide +kernel
theorem dX10_list_42 : decode cX10_list 42 = .ok (.iconst 0, 1) := by decide +kernel
theorem dX10_list_43 : decode cX10_list 43 = .ok (.aload_n 0, 1) := by decide +kernel
theorem dX10_list_44 : decode cX10_list 44 = .ok (.invokevirtual 182, 3) := by decide +kernel
theorem dX10_list_47 : decode cX10_list 47 = .ok (.lastore, 1) := by decide +kernel
theorem dX10_list_48 : decode cX10_list 48 = .ok (.aload_n 0, 1) := by decide +kernel
theorem dX10_list_49 : decode cX10_list 49 = .ok (.getfield 210, 3) := by decide +kernel
theorem dX10_list_52 : decode cX10_list 52 = .ok (.bipush 6, 2) := by decide +kernel
theorem dX10_list_54 : decode cX10_list 54 = .ok (.if_icmp .ge 13, 3) := by decide +kernel
theorem dX10_list_57 : decode cX10_list 57 = .ok (.aload_n 0, 1) := by decide +kernel
theorem dX10_list_58 : decode cX10_list 58 = .ok (.dup, 1) := by decide +kernel
theorem dX10_list_59 : decode cX10_list 59 = .ok (.getfield 210, 3) := by decide +kernel
theorem dX10_list_62 : decode cX10_list 62 = .ok (.iconst 1, 1) := by decide +kernel
theorem dX10_list_63 : decode cX10_list 63 = .ok (.iadd, 1) := by decide +kernel
theorem dX10_list_64 : decode cX10_list 64 = .ok (.putfield 210, 3) := by decide +kernel
theorem dX10_list_67 : decode cX10_list 67 = .ok (.iconst 0, 1) := by decide +kernel
theorem dX10_list_68 : decode cX10_list 68 = .ok (.istore_n 2, 1) := by decide +kernel
theorem dX10_list_69 : decode cX10_list 69 = .ok (.iconst 0, 1) := by decide +kernel
theorem dX10_list_70 : decode cX10_list 70 = .ok (.istore_n 3, 1) := by decide +kernel
theorem dX10_list_71 : decode cX10_list 71 = .ok (.iload_n 3, 1) := by decide +kernel
theorem dX10_list_72 : decode cX10_list 72 = .ok (.aload_n 0, 1) := by decide +kernel
theorem dX10_list_73 : decode cX10_list 73 = .ok (.getfield 99, 3) := by decide +kernel
theorem dX10_list_76 : decode cX10_list 76 = .ok (.if_icmp .ge 47, 3) := by decide +kernel
theorem dX10_list_79 : decode cX10_list 79 = .ok (.aload_n 0, 1) := by decide +kernel
theorem dX10_list_80 : decode cX10_list 80 = .ok (.getfield 84, 3) := by decide +kernel
theorem dX10_list_83 : decode cX10_list 83 = .ok (.iload_n 3, 1) := by decide +kernel
theorem dX10_list_84 : decode cX10_list 84 = .ok (.aload_n 0, 1) := by decide +kernel
theorem dX10_list_85 : decode cX10_list 85 = .ok (.iload_n 3, 1) := by decide +kernel
theorem dX10_list_86 : decode cX10_list 86 = .ok (.invokevirtual 213, 3) := by decide +kernel
theorem dX10_list_89 : decode cX10_list 89 = .ok (.ifCond .eq 11, 3) := by decide +kernel
theorem dX10_list_92 : decode cX10_list 92 = .ok (.aload_n 0, 1) := by decide +kernel
theorem dX10_list_93 : decode cX10_list 93 = .ok (.iload_n 3, 1) := by decide +kernel
theorem dX10_list_94 : decode cX10_list 94 = .ok (.invokevirtual 204, 3) := by decide +kernel
theorem dX10_list_97 : decode cX10_list 97 = .ok (.goto 5, 3) := by decide +kernel
theorem dX10_list_100 : decode cX10_list 100 = .ok (.bipush (-4), 2) := by decide +kernel
theorem dX10_list_102 : decode cX10_list 102 = .ok (.iastore, 1) := by decide +kernel
theorem dX10_list_103 : decode cX10_list 103 = .ok (.aload_n 0, 1) := by decide +kernel
theorem dX10_list_104 : decode cX10_list 104 = .ok (.getfield 84, 3) := by decide +kernel
theorem dX10_list_107 : decode cX10_list 107 = .ok (.iload_n 3, 1) := by decide +kernel
theorem dX10_list_108 : decode cX10_list 108 = .ok (.iaload, 1) := by decide +kernel
theorem dX10_list_109 : decode cX10_list 109 = .ok (.bipush (-4), 2) := by decide +kernel
theorem dX10_list_111 : decode cX10_list 111 = .ok (.if_icmp .eq 6, 3) := by decide +kernel
theorem dX10_list_114 : decode cX10_list 114 = .ok (.iinc 2 1, 3) := by decide +kernel
theorem dX10_list_117 : decode cX10_list 117 = .ok (.iinc 3 1, 3) := by decide +kernel
theorem dX10_list_120 : decode cX10_list 120 = .ok (.goto (-49), 3) := by decide +kernel
theorem dX10_list_123 : decode cX10_list 123 = .ok (.iload_n 1, 1) := by decide +kernel
theorem dX10_list_124 : decode cX10_list 124 = .ok (.iconst (-1), 1) := by decide +kernel
theorem dX10_list_125 : decode cX10_list 125 = .ok (.if_icmp .ne 5, 3) := by decide +kernel
theorem dX10_list_128 : decode cX10_list 128 = .ok (.iload_n 2, 1) := by decide +kernel
theorem dX10_list_129 : decode cX10_list 129 = .ok (.ireturn, 1) := by decide +kernel
theorem dX10_list_130 : decode cX10_list 130 = .ok (.iconst 0, 1) := by decide +kernel
theorem dX10_list_131 : decode cX10_list 131 = .ok (.istore_n 3, 1) := by decide +kernel
theorem dX10_list_132 : decode cX10_list 132 = .ok (.iload_n 3, 1) := by decide +kernel
theorem dX10_list_133 : decode cX10_list 133 = .ok (.aload_n 0, 1) := by decide +kernel
theorem dX10_list_134 : decode cX10_list 134 = .ok (.getfield 99, 3) := by decide +kernel
theorem dX10_list_137 : decode cX10_list 137 = .ok (.if_icmp .ge 31, 3) := by decide +kernel
theorem dX10_list_140 : decode cX10_list 140 = .ok (.aload_n 0, 1) := by decide +kernel
theorem dX10_list_141 : decode cX10_list 141 = .ok (.getfield 84, 3) := by decide +kernel
theorem dX10_list_144 : decode cX10_list 144 = .ok (.iload_n 3, 1) := by decide +kernel
theorem dX10_list_145 : decode cX10_list 145 = .ok (.iaload, 1) := by decide +kernel
theorem dX10_list_146 : decode cX10_list 146 = .ok (.bipush (-4), 2) := by decide +kernel
theorem dX10_list_148 : decode cX10_list 148 = .ok (.if_icmp .eq 14, 3) := by decide +kernel
theorem dX10_list_151 : decode cX10_list 151 = .ok (.aload_n 0, 1) := by decide +kernel
theorem dX10_list_152 : decode cX10_list 152 = .ok (.iload_n 3, 1) := by decide +kernel
theorem dX10_list_153 : decode cX10_list 153 = .ok (.invokevirtual 216, 3) := by decide +kernel
theorem dX10_list_156 : decode cX10_list 156 = .ok (.iload_n 1, 1) := by decide +kernel
theorem dX10_list_157 : decode cX10_list 157 = .ok (.if_icmp .ne 5, 3) := by decide +kernel
theorem dX10_list_160 : decode cX10_list 160 = .ok (.iload_n 3, 1) := by decide +kernel
theorem dX10_list_161 : decode cX10_list 161 = .ok (.ireturn, 1) := by decide +kernel
theorem dX10_list_162 : decode cX10_list 162 = .ok (.iinc 3 1, 3) := by decide +kernel
theorem dX10_list_165 : decode cX10_list 165 = .ok (.goto (-33), 3) := by decide +kernel
theorem dX10_list_168 : decode cX10_list 168 = .ok (.bipush (-4), 2) := by decide +kernel
theorem dX10_list_170 : decode cX10_list 170 = .ok (.ireturn, 1) := by decide +kernel
theorem dX10_best_0 : decode cX10_best 0 = .ok (.aload_n 0, 1) := by decide +kernel
theorem dX10_best_1 : decode cX10_best 1 = .ok (.iload_n 1, 1) := by decide +kernel
theorem dX10_best_2 : decode cX10_best 2 = .ok (.invokevirtual 145, 3) := by decide +kernel
theorem dX10_best_5 : decode cX10_best 5 = .ok (.ifCond .eq 7, 3) := by decide +kernel
theorem dX10_best_8 : decode cX10_best 8 = .ok (.iload_n 2, 1) := by decide +kernel
theorem dX10_best_9 : decode cX10_best 9 = .ok (.ifCond .ge 5, 3) := by decide +kernel
theorem dX10_best_12 : decode cX10_best 12 = .ok (.iconst (-1), 1) := by decide +kernel
theorem dX10_best_13 : decode cX10_best 13 = .ok (.ireturn, 1) := by decide +kernel
theorem dX10_best_14 : decode cX10_best 14 = .ok (.aload_n 0, 1) := by decide +kernel
theorem dX10_best_15 : decode cX10_best 15 = .ok (.invokevirtual 198, 3) := by decide +kernel
theorem dX10_best_18 : decode cX10_best 18 = .ok (.aload_n 0, 1) := by decide +kernel
theorem dX10_best_19 : decode cX10_best 19 = .ok (.iload_n 1, 1) := by decide +kernel
theorem dX10_best_20 : decode cX10_best 20 = .ok (.invokevirtual 201, 3) := by decide +kernel
theorem dX10_best_23 : decode cX10_best 23 = .ok (.ifCond .eq 11, 3) := by decide +kernel
theorem dX10_best_26 : decode cX10_best 26 = .ok (.iload_n 2, 1) := by decide +kernel
theorem dX10_best_27 : decode cX10_best 27 = .ok (.aload_n 0, 1) := by decide +kernel
theorem dX10_best_28 : decode cX10_best 28 = .ok (.getfield 160, 3) := by decide +kernel
theorem dX10_best_31 : decode cX10_best 31 = .ok (.if_icmp .lt 6, 3) := by decide +kernel
theorem dX10_best_34 : decode cX10_best 34 = .ok (.bipush (-4), 2) := by decide +kernel
theorem dX10_best_36 : decode cX10_best 36 = .ok (.ireturn, 1) := by decide +kernel
theorem dX10_best_37 : decode cX10_best 37 = .ok (.aload_n 0, 1) := by decide +kernel
theorem dX10_best_38 : decode cX10_best 38 = .ok (.getfield 81, 3) := by decide +kernel
theorem dX10_best_41 : decode cX10_best 41 = .ok (.iload_n 2, 1) := by decide +kernel
theorem dX10_best_42 : decode cX10_best 42 = .ok (.iaload, 1) := by decide +kernel
theorem dX10_best_43 : decode cX10_best 43 = .ok (.ireturn, 1) := by decide +kernel
theorem dX10_ways_0 : decode cX10_ways 0 = .ok (.aload_n 0, 1) := by decide +kernel
theorem dX10_ways_1 : decode cX10_ways 1 = .ok (.iload_n 1, 1) := by decide +kernel
theorem dX10_ways_2 : decode cX10_ways 2 = .ok (.invokevirtual 145, 3) := by decide +kernel
theorem dX10_ways_5 : decode cX10_ways 5 = .ok (.ifCond .ne 5, 3) := by decide +kernel
theorem dX10_ways_8 : decode cX10_ways 8 = .ok (.iconst (-1), 1) := by decide +kernel
theorem dX10_ways_9 : decode cX10_ways 9 = .ok (.ireturn, 1) := by decide +kernel
theorem dX10_ways_10 : decode cX10_ways 10 = .ok (.aload_n 0, 1) := by decide +kernel
theorem dX10_ways_11 : decode cX10_ways 11 = .ok (.invokevirtual 198, 3) := by decide +kernel
theorem dX10_ways_14 : decode cX10_ways 14 = .ok (.aload_n 0, 1) := by decide +kernel
theorem dX10_ways_15 : decode cX10_ways 15 = .ok (.iload_n 1, 1) := by decide +kernel
theorem dX10_ways_16 : decode cX10_ways 16 = .ok (.invokevirtual 201, 3) := by decide +kernel
theorem dX10_ways_19 : decode cX10_ways 19 = .ok (.ireturn, 1) := by decide +kernel
theorem dX10_passes_0 : decode cX10_passes 0 = .ok (.iload_n 1, 1) := by decide +kernel
theorem dX10_passes_1 : decode cX10_passes 1 = .ok (.ifCond .eq 10, 3) := by decide +kernel
theorem dX10_passes_4 : decode cX10_passes 4 = .ok (.iload_n 1, 1) := by decide +kernel
theorem dX10_passes_5 : decode cX10_passes 5 = .ok (.iconst 1, 1) := by decide +kernel
theorem dX10_passes_6 : decode cX10_passes 6 = .ok (.if_icmp .eq 5, 3) := by decide +kernel
theorem dX10_passes_9 : decode cX10_passes 9 = .ok (.iconst (-1), 1) := by decide +kernel
theorem dX10_passes_10 : decode cX10_passes 10 = .ok (.ireturn, 1) := by decide +kernel
theorem dX10_passes_11 : decode cX10_passes 11 = .ok (.aload_n 0, 1) := by decide +kernel
theorem dX10_passes_12 : decode cX10_passes 12 = .ok (.invokevirtual 198, 3) := by decide +kernel
theorem dX10_passes_15 : decode cX10_passes 15 = .ok (.iconst 0, 1) := by decide +kernel
theorem dX10_passes_16 : decode cX10_passes 16 = .ok (.istore_n 2, 1) := by decide +kernel
theorem dX10_passes_17 : decode cX10_passes 17 = .ok (.iconst 0, 1) := by decide +kernel
theorem dX10_passes_18 : decode cX10_passes 18 = .ok (.istore_n 3, 1) := by decide +kernel
theorem dX10_passes_19 : decode cX10_passes 19 = .ok (.iload_n 3, 1) := by decide +kernel
theorem dX10_passes_20 : decode cX10_passes 20 = .ok (.aload_n 0, 1) := by decide +kernel
theorem dX10_passes_21 : decode cX10_passes 21 = .ok (.getfield 99, 3) := by decide +kernel
theorem dX10_passes_24 : decode cX10_passes 24 = .ok (.if_icmp .ge 47, 3) := by decide +kernel
theorem dX10_passes_27 : decode cX10_passes 27 = .ok (.iload_n 1, 1) := by decide +kernel
theorem dX10_passes_28 : decode cX10_passes 28 = .ok (.ifCond .ne 11, 3) := by decide +kernel
theorem dX10_passes_31 : decode cX10_passes 31 = .ok (.aload_n 0, 1) := by decide +kernel
theorem dX10_passes_32 : decode cX10_passes 32 = .ok (.iload_n 3, 1) := by decide +kernel
theorem dX10_passes_33 : decode cX10_passes 33 = .ok (.invokevirtual 213, 3) := by decide +kernel
theorem dX10_passes_36 : decode cX10_passes 36 = .ok (.goto 16, 3) := by decide +kernel
theorem dX10_passes_39 : decode cX10_passes 39 = .ok (.aload_n 0, 1) := by decide +kernel
theorem dX10_passes_40 : decode cX10_passes 40 = .ok (.iload_n 3, 1) := by decide +kernel
theorem dX10_passes_41 : decode cX10_passes 41 = .ok (.invokevirtual 201, 3) := by decide +kernel
theorem dX10_passes_44 : decode cX10_passes 44 = .ok (.ifCond .le 7, 3) := by decide +kernel
theorem dX10_passes_47 : decode cX10_passes 47 = .ok (.iconst 1, 1) := by decide +kernel
theorem dX10_passes_48 : decode cX10_passes 48 = .ok (.goto 4, 3) := by decide +kernel
theorem dX10_passes_51 : decode cX10_passes 51 = .ok (.iconst 0, 1) := by decide +kernel
theorem dX10_passes_52 : decode cX10_passes 52 = .ok (.istore 4, 2) := by decide +kernel
theorem dX10_passes_54 : decode cX10_passes 54 = .ok (.iload 4, 2) := by decide +kernel
theorem dX10_passes_56 : decode cX10_passes 56 = .ok (.ifCond .eq 9, 3) := by decide +kernel
theorem dX10_passes_59 : decode cX10_passes 59 = .ok (.iload_n 2, 1) := by decide +kernel
theorem dX10_passes_60 : decode cX10_passes 60 = .ok (.iconst 1, 1) := by decide +kernel
theorem dX10_passes_61 : decode cX10_passes 61 = .ok (.iload_n 3, 1) := by decide +kernel
theorem dX10_passes_62 : decode cX10_passes 62 = .ok (.ishl, 1) := by decide +kernel
theorem dX10_passes_63 : decode cX10_passes 63 = .ok (.iadd, 1) := by decide +kernel
theorem dX10_passes_64 : decode cX10_passes 64 = .ok (.istore_n 2, 1) := by decide +kernel
theorem dX10_passes_65 : decode cX10_passes 65 = .ok (.iinc 3 1, 3) := by decide +kernel
theorem dX10_passes_68 : decode cX10_passes 68 = .ok (.goto (-49), 3) := by decide +kernel
theorem dX10_passes_71 : decode cX10_passes 71 = .ok (.iload_n 2, 1) := by decide +kernel
theorem dX10_passes_72 : decode cX10_passes 72 = .ok (.ireturn, 1) := by decide +kernel
theorem dX10_asked_0 : decode cX10_asked 0 = .ok (.iload_n 1, 1) := by decide +kernel
theorem dX10_asked_1 : decode cX10_asked 1 = .ok (.ifCond .lt 8, 3) := by decide +kernel
theorem dX10_asked_4 : decode cX10_asked 4 = .ok (.iload_n 1, 1) := by decide +kernel
theorem dX10_asked_5 : decode cX10_asked 5 = .ok (.iconst 5, 1) := by decide +kernel
theorem dX10_asked_6 : decode cX10_asked 6 = .ok (.if_icmp .le 5, 3) := by decide +kernel
theorem dX10_asked_9 : decode cX10_asked 9 = .ok (.iconst (-1), 1) := by decide +kernel
theorem dX10_asked_10 : decode cX10_asked 10 = .ok (.ireturn, 1) := by decide +kernel
theorem dX10_asked_11 : decode cX10_asked 11 = .ok (.iload_n 1, 1) := by decide +kernel
theorem dX10_asked_12 : decode cX10_asked 12 = .ok (.aload_n 0, 1) := by decide +kernel
theorem dX10_asked_13 : decode cX10_asked 13 = .ok (.getfield 210, 3) := by decide +kernel
theorem dX10_asked_16 : decode cX10_asked 16 = .ok (.if_icmp .ge 17, 3) := by decide +kernel
theorem dX10_asked_19 : decode cX10_asked 19 = .ok (.aload_n 0, 1) := by decide +kernel
theorem dX10_asked_20 : decode cX10_asked 20 = .ok (.getfield 59, 3) := by decide +kernel
theorem dX10_asked_23 : decode cX10_asked 23 = .ok (.iload_n 1, 1) := by decide +kernel
theorem dX10_asked_24 : decode cX10_asked 24 = .ok (.laload, 1) := by decide +kernel
theorem dX10_asked_25 : decode cX10_asked 25 = .ok (.ldc2_w 219, 3) := by decide +kernel
theorem dX10_asked_28 : decode cX10_asked 28 = .ok (.lrem, 1) := by decide +kernel
theorem dX10_asked_29 : decode cX10_asked 29 = .ok (.l2i, 1) := by decide +kernel
theorem dX10_asked_30 : decode cX10_asked 30 = .ok (.goto 5, 3) := by decide +kernel
theorem dX10_asked_33 : decode cX10_asked 33 = .ok (.bipush (-4), 2) := by decide +kernel
theorem dX10_asked_35 : decode cX10_asked 35 = .ok (.ireturn, 1) := by decide +kernel
theorem dX10_isFirst_0 : decode cX10_isFirst 0 = .ok (.aload_n 0, 1) := by decide +kernel
theorem dX10_isFirst_1 : decode cX10_isFirst 1 = .ok (.iload_n 1, 1) := by decide +kernel
theorem dX10_isFirst_2 : decode cX10_isFirst 2 = .ok (.invokevirtual 201, 3) := by decide +kernel
theorem dX10_isFirst_5 : decode cX10_isFirst 5 = .ok (.ifCond .ne 5, 3) := by decide +kernel
theorem dX10_isFirst_8 : decode cX10_isFirst 8 = .ok (.iconst 0, 1) := by decide +kernel
theorem dX10_isFirst_9 : decode cX10_isFirst 9 = .ok (.ireturn, 1) := by decide +kernel
theorem dX10_isFirst_10 : decode cX10_isFirst 10 = .ok (.iconst 0, 1) := by decide +kernel
theorem dX10_isFirst_11 : decode cX10_isFirst 11 = .ok (.istore_n 2, 1) := by decide +kernel
theorem dX10_isFirst_12 : decode cX10_isFirst 12 = .ok (.iload_n 2, 1) := by decide +kernel
theorem dX10_isFirst_13 : decode cX10_isFirst 13 = .ok (.aload_n 0, 1) := by decide +kernel
theorem dX10_isFirst_14 : decode cX10_isFirst 14 = .ok (.getfield 99, 3) := by decide +kernel
theorem dX10_isFirst_17 : decode cX10_isFirst 17 = .ok (.if_icmp .ge 25, 3) := by decide +kernel
theorem dX10_isFirst_20 : decode cX10_isFirst 20 = .ok (.aload_n 0, 1) := by decide +kernel
theorem dX10_isFirst_21 : decode cX10_isFirst 21 = .ok (.iload_n 2, 1) := by decide +kernel
theorem dX10_isFirst_22 : decode cX10_isFirst 22 = .ok (.invokevirtual 201, 3) := by decide +kernel
theorem dX10_isFirst_25 : decode cX10_isFirst 25 = .ok (.pop, 1) := by decide +kernel
theorem dX10_isFirst_26 : decode cX10_isFirst 26 = .ok (.aload_n 0, 1) := by decide +kernel
theorem dX10_isFirst_27 : decode cX10_isFirst 27 = .ok (.getfield 84, 3) := by decide +kernel
theorem dX10_isFirst_30 : decode cX10_isFirst 30 = .ok (.iload_n 2, 1) := by decide +kernel
theorem dX10_isFirst_31 : decode cX10_isFirst 31 = .ok (.aload_n 0, 1) := by decide +kernel
theorem dX10_isFirst_32 : decode cX10_isFirst 32 = .ok (.getfield 167, 3) := by decide +kernel
theorem dX10_isFirst_35 : decode cX10_isFirst 35 = .ok (.iastore, 1) := by decide +kernel
theorem dX10_isFirst_36 : decode cX10_isFirst 36 = .ok (.iinc 2 1, 3) := by decide +kernel
theorem dX10_isFirst_39 : decode cX10_isFirst 39 = .ok (.goto (-27), 3) := by decide +kernel
theorem dX10_isFirst_42 : decode cX10_isFirst 42 = .ok (.aload_n 0, 1) := by decide +kernel
theorem dX10_isFirst_43 : decode cX10_isFirst 43 = .ok (.iload_n 1, 1) := by decide +kernel
theorem dX10_isFirst_44 : decode cX10_isFirst 44 = .ok (.invokevirtual 216, 3) := by decide +kernel
theorem dX10_isFirst_47 : decode cX10_isFirst 47 = .ok (.ifCond .ne 7, 3) := by decide +kernel
theorem dX10_isFirst_50 : decode cX10_isFirst 50 = .ok (.iconst 1, 1) := by decide +kernel
theorem dX10_isFirst_51 : decode cX10_isFirst 51 = .ok (.goto 4, 3) := by decide +kernel
theorem dX10_isFirst_54 : decode cX10_isFirst 54 = .ok (.iconst 0, 1) := by decide +kernel
theorem dX10_isFirst_55 : decode cX10_isFirst 55 = .ok (.ireturn, 1) := by decide +kernel
theorem dX10_brief_0 : decode cX10_brief 0 = .ok (.aload_n 0, 1) := by decide +kernel
theorem dX10_brief_1 : decode cX10_brief 1 = .ok (.iload_n 1, 1) := by decide +kernel
theorem dX10_brief_2 : decode cX10_brief 2 = .ok (.invokevirtual 145, 3) := by decide +kernel
theorem dX10_brief_5 : decode cX10_brief 5 = .ok (.ifCond .ne 5, 3) := by decide +kernel
theorem dX10_brief_8 : decode cX10_brief 8 = .ok (.iconst (-1), 1) := by decide +kernel
theorem dX10_brief_9 : decode cX10_brief 9 = .ok (.ireturn, 1) := by decide +kernel
theorem dX10_brief_10 : decode cX10_brief 10 = .ok (.iconst 1, 1) := by decide +kernel
theorem dX10_brief_11 : decode cX10_brief 11 = .ok (.istore_n 2, 1) := by decide +kernel
theorem dX10_brief_12 : decode cX10_brief 12 = .ok (.iload_n 2, 1) := by decide +kernel
theorem dX10_brief_13 : decode cX10_brief 13 = .ok (.iconst 2, 1) := by decide +kernel
theorem dX10_brief_14 : decode cX10_brief 14 = .ok (.if_icmp .gt 103, 3) := by decide +kernel
theorem dX10_brief_17 : decode cX10_brief 17 = .ok (.aload_n 0, 1) := by decide +kernel
theorem dX10_brief_18 : decode cX10_brief 18 = .ok (.iload_n 2, 1) := by decide +kernel
theorem dX10_brief_19 : decode cX10_brief 19 = .ok (.putfield 160, 3) := by decide +kernel
theorem dX10_brief_22 : decode cX10_brief 22 = .ok (.iconst 1, 1) := by decide +kernel
theorem dX10_brief_23 : decode cX10_brief 23 = .ok (.istore_n 3, 1) := by decide +kernel
theorem dX10_brief_24 : decode cX10_brief 24 = .ok (.iload_n 3, 1) := by decide +kernel
theorem dX10_brief_25 : decode cX10_brief 25 = .ok (.bipush 26, 2) := by decide +kernel
theorem dX10_brief_27 : decode cX10_brief 27 = .ok (.if_icmp .gt 84, 3) := by decide +kernel
theorem dX10_brief_30 : decode cX10_brief 30 = .ok (.aload_n 0, 1) := by decide +kernel
theorem dX10_brief_31 : decode cX10_brief 31 = .ok (.getfield 75, 3) := by decide +kernel
theorem dX10_brief_34 : decode cX10_brief 34 = .ok (.iconst 0, 1) := by decide +kernel
theorem dX10_brief_35 : decode cX10_brief 35 = .ok (.bipush 97, 2) := by decide +kernel
theorem dX10_brief_37 : decode cX10_brief 37 = .ok (.iload_n 3, 1) := by decide +kernel
theorem dX10_brief_38 : decode cX10_brief 38 = .ok (.iadd, 1) := by decide +kernel
theorem dX10_brief_39 : decode cX10_brief 39 = .ok (.iconst 1, 1) := by decide +kernel
theorem dX10_brief_40 : decode cX10_brief 40 = .ok (.isub, 1) := by decide +kernel
theorem dX10_brief_41 : decode cX10_brief 41 = .ok (.iastore, 1) := by decide +kernel
theorem dX10_brief_42 : decode cX10_brief 42 = .ok (.iconst 1, 1) := by decide +kernel
theorem dX10_brief_43 : decode cX10_brief 43 = .ok (.istore 4, 2) := by decide +kernel
theorem dX10_brief_45 : decode cX10_brief 45 = .ok (.iload 4, 2) := by decide +kernel
theorem dX10_brief_47 : decode cX10_brief 47 = .ok (.iload_n 2, 1) := by decide +kernel
theorem dX10_brief_48 : decode cX10_brief 48 = .ok (.iconst 1, 1) := by decide +kernel
theorem dX10_brief_49 : decode cX10_brief 49 = .ok (.if_icmp .ne 7, 3) := by decide +kernel
theorem dX10_brief_52 : decode cX10_brief 52 = .ok (.iconst 1, 1) := by decide +kernel
theorem dX10_brief_53 : decode cX10_brief 53 = .ok (.goto 5, 3) := by decide +kernel
theorem dX10_brief_56 : decode cX10_brief 56 = .ok (.bipush 26, 2) := by decide +kernel
theorem dX10_brief_58 : decode cX10_brief 58 = .ok (.if_icmp .gt 47, 3) := by decide +kernel
theorem dX10_brief_61 : decode cX10_brief 61 = .ok (.aload_n 0, 1) := by decide +kernel
theorem dX10_brief_62 : decode cX10_brief 62 = .ok (.getfield 75, 3) := by decide +kernel
theorem dX10_brief_65 : decode cX10_brief 65 = .ok (.iconst 1, 1) := by decide +kernel
theorem dX10_brief_66 : decode cX10_brief 66 = .ok (.bipush 97, 2) := by decide +kernel
theorem dX10_brief_68 : decode cX10_brief 68 = .ok (.iload 4, 2) := by decide +kernel
theorem dX10_brief_70 : decode cX10_brief 70 = .ok (.iadd, 1) := by decide +kernel
theorem dX10_brief_71 : decode cX10_brief 71 = .ok (.iconst 1, 1) := by decide +kernel
theorem dX10_brief_72 : decode cX10_brief 72 = .ok (.isub, 1) := by decide +kernel
theorem dX10_brief_73 : decode cX10_brief 73 = .ok (.iastore, 1) := by decide +kernel
theorem dX10_brief_74 : decode cX10_brief 74 = .ok (.aload_n 0, 1) := by decide +kernel
theorem dX10_brief_75 : decode cX10_brief 75 = .ok (.iload_n 1, 1) := by decide +kernel
theorem dX10_brief_76 : decode cX10_brief 76 = .ok (.invokevirtual 221, 3) := by decide +kernel
theorem dX10_brief_79 : decode cX10_brief 79 = .ok (.ifCond .eq 20, 3) := by decide +kernel
theorem dX10_brief_82 : decode cX10_brief 82 = .ok (.bipush 27, 2) := by decide +kernel
theorem dX10_brief_84 : decode cX10_brief 84 = .ok (.iload_n 3, 1) := by decide +kernel
theorem dX10_brief_85 : decode cX10_brief 85 = .ok (.imul, 1) := by decide +kernel
theorem dX10_brief_86 : decode cX10_brief 86 = .ok (.iload_n 2, 1) := by decide +kernel
theorem dX10_brief_87 : decode cX10_brief 87 = .ok (.iconst 1, 1) := by decide +kernel
theorem dX10_brief_88 : decode cX10_brief 88 = .ok (.if_icmp .ne 7, 3) := by decide +kernel
theorem dX10_brief_91 : decode cX10_brief 91 = .ok (.iconst 0, 1) := by decide +kernel
theorem dX10_brief_92 : decode cX10_brief 92 = .ok (.goto 5, 3) := by decide +kernel
theorem dX10_brief_95 : decode cX10_brief 95 = .ok (.iload 4, 2) := by decide +kernel
theorem dX10_brief_97 : decode cX10_brief 97 = .ok (.iadd, 1) := by decide +kernel
theorem dX10_brief_98 : decode cX10_brief 98 = .ok (.ireturn, 1) := by decide +kernel
theorem dX10_brief_99 : decode cX10_brief 99 = .ok (.iinc 4 1, 3) := by decide +kernel
theorem dX10_brief_102 : decode cX10_brief 102 = .ok (.goto (-57), 3) := by decide +kernel
theorem dX10_brief_105 : decode cX10_brief 105 = .ok (.iinc 3 1, 3) := by decide +kernel
theorem dX10_brief_108 : decode cX10_brief 108 = .ok (.goto (-84), 3) := by decide +kernel
theorem dX10_brief_111 : decode cX10_brief 111 = .ok (.iinc 2 1, 3) := by decide +kernel
theorem dX10_brief_114 : decode cX10_brief 114 = .ok (.goto (-102), 3) := by decide +kernel
theorem dX10_brief_117 : decode cX10_brief 117 = .ok (.bipush (-4), 2) := by decide +kernel
theorem dX10_brief_119 : decode cX10_brief 119 = .ok (.ireturn, 1) := by decide +kernel
theorem dX10_pair_0 : decode cX10_pair 0 = .ok (.aload_n 0, 1) := by decide +kernel
theorem dX10_pair_1 : decode cX10_pair 1 = .ok (.iload_n 1, 1) := by decide +kernel
theorem dX10_pair_2 : decode cX10_pair 2 = .ok (.invokevirtual 145, 3) := by decide +kernel
theorem dX10_pair_5 : decode cX10_pair 5 = .ok (.ifCond .eq 11, 3) := by decide +kernel
theorem dX10_pair_8 : decode cX10_pair 8 = .ok (.aload_n 0, 1) := by decide +kernel
theorem dX10_pair_9 : decode cX10_pair 9 = .ok (.iload_n 2, 1) := by decide +kernel
theorem dX10_pair_10 : decode cX10_pair 10 = .ok (.invokevirtual 145, 3) := by decide +kernel
theorem dX10_pair_13 : decode cX10_pair 13 = .ok (.ifCond .ne 5, 3) := by decide +kernel
theorem dX10_pair_16 : decode cX10_pair 16 = .ok (.iconst (-1), 1) := by decide +kernel
theorem dX10_pair_17 : decode cX10_pair 17 = .ok (.ireturn, 1) := by decide +kernel
theorem dX10_pair_18 : decode cX10_pair 18 = .ok (.iconst 0, 1) := by decide +kernel
theorem dX10_pair_19 : decode cX10_pair 19 = .ok (.istore_n 3, 1) := by decide +kernel
theorem dX10_pair_20 : decode cX10_pair 20 = .ok (.bipush 97, 2) := by decide +kernel
theorem dX10_pair_22 : decode cX10_pair 22 = .ok (.istore 4, 2) := by decide +kernel
theorem dX10_pair_24 : decode cX10_pair 24 = .ok (.iload 4, 2) := by decide +kernel
theorem dX10_pair_26 : decode cX10_pair 26 = .ok (.bipush 122, 2) := by decide +kernel
theorem dX10_pair_28 : decode cX10_pair 28 = .ok (.if_icmp .gt 32, 3) := by decide +kernel
theorem dX10_pair_31 : decode cX10_pair 31 = .ok (.aload_n 0, 1) := by decide +kernel
theorem dX10_pair_32 : decode cX10_pair 32 = .ok (.iload_n 1, 1) := by decide +kernel
theorem dX10_pair_33 : decode cX10_pair 33 = .ok (.iload 4, 2) := by decide +kernel
theorem dX10_pair_35 : decode cX10_pair 35 = .ok (.invokevirtual 179, 3) := by decide +kernel
theorem dX10_pair_38 : decode cX10_pair 38 = .ok (.ifCond .eq 16, 3) := by decide +kernel
theorem dX10_pair_41 : decode cX10_pair 41 = .ok (.aload_n 0, 1) := by decide +kernel
theorem dX10_pair_42 : decode cX10_pair 42 = .ok (.iload_n 2, 1) := by decide +kernel
theorem dX10_pair_43 : decode cX10_pair 43 = .ok (.iload 4, 2) := by decide +kernel
theorem dX10_pair_45 : decode cX10_pair 45 = .ok (.invokevirtual 179, 3) := by decide +kernel
theorem dX10_pair_48 : decode cX10_pair 48 = .ok (.ifCond .eq 6, 3) := by decide +kernel
theorem dX10_pair_51 : decode cX10_pair 51 = .ok (.iinc 3 1, 3) := by decide +kernel
theorem dX10_pair_54 : decode cX10_pair 54 = .ok (.iinc 4 1, 3) := by decide +kernel
theorem dX10_pair_57 : decode cX10_pair 57 = .ok (.goto (-33), 3) := by decide +kernel
theorem dX10_pair_60 : decode cX10_pair 60 = .ok (.iload_n 3, 1) := by decide +kernel
theorem dX10_pair_61 : decode cX10_pair 61 = .ok (.ireturn, 1) := by decide +kernel
theorem dX10_keep_0 : decode cX10_keep 0 = .ok (.aload_n 0, 1) := by decide +kernel
theorem dX10_keep_1 : decode cX10_keep 1 = .ok (.getfield 142, 3) := by decide +kernel
theorem dX10_keep_4 : decode cX10_keep 4 = .ok (.iconst 2, 1) := by decide +kernel
theorem dX10_keep_5 : decode cX10_keep 5 = .ok (.if_icmp .ne 6, 3) := by decide +kernel
theorem dX10_keep_8 : decode cX10_keep 8 = .ok (.bipush (-3), 2) := by decide +kernel
theorem dX10_keep_10 : decode cX10_keep 10 = .ok (.ireturn, 1) := by decide +kernel
theorem dX10_keep_11 : decode cX10_keep 11 = .ok (.aload_n 0, 1) := by decide +kernel
theorem dX10_keep_12 : decode cX10_keep 12 = .ok (.getfield 49, 3) := by decide +kernel
theorem dX10_keep_15 : decode cX10_keep 15 = .ok (.aload_n 0, 1) := by decide +kernel
theorem dX10_keep_16 : decode cX10_keep 16 = .ok (.getfield 142, 3) := by decide +kernel
theorem dX10_keep_19 : decode cX10_keep 19 = .ok (.aload_n 0, 1) := by decide +kernel
theorem dX10_keep_20 : decode cX10_keep 20 = .ok (.getfield 139, 3) := by decide +kernel
theorem dX10_keep_23 : decode cX10_keep 23 = .ok (.iastore, 1) := by decide +kernel
theorem dX10_keep_24 : decode cX10_keep 24 = .ok (.iconst 0, 1) := by decide +kernel
theorem dX10_keep_25 : decode cX10_keep 25 = .ok (.istore_n 1, 1) := by decide +kernel
theorem dX10_keep_26 : decode cX10_keep 26 = .ok (.iload_n 1, 1) := by decide +kernel
theorem dX10_keep_27 : decode cX10_keep 27 = .ok (.aload_n 0, 1) := by decide +kernel
theorem dX10_keep_28 : decode cX10_keep 28 = .ok (.getfield 139, 3) := by decide +kernel
theorem dX10_keep_31 : decode cX10_keep 31 = .ok (.if_icmp .ge 29, 3) := by decide +kernel
theorem dX10_keep_34 : decode cX10_keep 34 = .ok (.aload_n 0, 1) := by decide +kernel
theorem dX10_keep_35 : decode cX10_keep 35 = .ok (.getfield 46, 3) := by decide +kernel
theorem dX10_keep_38 : decode cX10_keep 38 = .ok (.bipush 6, 2) := by decide +kernel
theorem dX10_keep_40 : decode cX10_keep 40 = .ok (.aload_n 0, 1) := by decide +kernel
theorem dX10_keep_41 : decode cX10_keep 41 = .ok (.getfield 142, 3) := by decide +kernel
theorem dX10_keep_44 : decode cX10_keep 44 = .ok (.imul, 1) := by decide +kernel
theorem dX10_keep_45 : decode cX10_keep 45 = .ok (.iload_n 1, 1) := by decide +kernel
theorem dX10_keep_46 : decode cX10_keep 46 = .ok (.iadd, 1) := by decide +kernel
theorem dX10_keep_47 : decode cX10_keep 47 = .ok (.aload_n 0, 1) := by decide +kernel
theorem dX10_keep_48 : decode cX10_keep 48 = .ok (.getfield 43, 3) := by decide +kernel
theorem dX10_keep_51 : decode cX10_keep 51 = .ok (.iload_n 1, 1) := by decide +kernel
theorem dX10_keep_52 : decode cX10_keep 52 = .ok (.iaload, 1) := by decide +kernel
theorem dX10_keep_53 : decode cX10_keep 53 = .ok (.iastore, 1) := by decide +kernel
theorem dX10_keep_54 : decode cX10_keep 54 = .ok (.iinc 1 1, 3) := by decide +kernel
theorem dX10_keep_57 : decode cX10_keep 57 = .ok (.goto (-31), 3) := by decide +kernel
theorem dX10_keep_60 : decode cX10_keep 60 = .ok (.aload_n 0, 1) := by decide +kernel
theorem dX10_keep_61 : decode cX10_keep 61 = .ok (.dup, 1) := by decide +kernel
theorem dX10_keep_62 : decode cX10_keep 62 = .ok (.getfield 142, 3) := by decide +kernel
theorem dX10_keep_65 : decode cX10_keep 65 = .ok (.iconst 1, 1) := by decide +kernel
theorem dX10_keep_66 : decode cX10_keep 66 = .ok (.iadd, 1) := by decide +kernel
theorem dX10_keep_67 : decode cX10_keep 67 = .ok (.putfield 142, 3) := by decide +kernel
theorem dX10_keep_70 : decode cX10_keep 70 = .ok (.aload_n 0, 1) := by decide +kernel
theorem dX10_keep_71 : decode cX10_keep 71 = .ok (.getfield 142, 3) := by decide +kernel
theorem dX10_keep_74 : decode cX10_keep 74 = .ok (.ireturn, 1) := by decide +kernel
theorem dX10_back_0 : decode cX10_back 0 = .ok (.aload_n 0, 1) := by decide +kernel
theorem dX10_back_1 : decode cX10_back 1 = .ok (.getfield 142, 3) := by decide +kernel
theorem dX10_back_4 : decode cX10_back 4 = .ok (.ifCond .ne 6, 3) := by decide +kernel
theorem dX10_back_7 : decode cX10_back 7 = .ok (.bipush (-2), 2) := by decide +kernel
theorem dX10_back_9 : decode cX10_back 9 = .ok (.ireturn, 1) := by decide +kernel
theorem dX10_back_10 : decode cX10_back 10 = .ok (.aload_n 0, 1) := by decide +kernel
theorem dX10_back_11 : decode cX10_back 11 = .ok (.dup, 1) := by decide +kernel
theorem dX10_back_12 : decode cX10_back 12 = .ok (.getfield 142, 3) := by decide +kernel
theorem dX10_back_15 : decode cX10_back 15 = .ok (.iconst 1, 1) := by decide +kernel
theorem dX10_back_16 : decode cX10_back 16 = .ok (.isub, 1) := by decide +kernel
theorem dX10_back_17 : decode cX10_back 17 = .ok (.putfield 142, 3) := by decide +kernel
theorem dX10_back_20 : decode cX10_back 20 = .ok (.aload_n 0, 1) := by decide +kernel
theorem dX10_back_21 : decode cX10_back 21 = .ok (.aload_n 0, 1) := by decide +kernel
theorem dX10_back_22 : decode cX10_back 22 = .ok (.getfield 49, 3) := by decide +kernel
theorem dX10_back_25 : decode cX10_back 25 = .ok (.aload_n 0, 1) := by decide +kernel
theorem dX10_back_26 : decode cX10_back 26 = .ok (.getfield 142, 3) := by decide +kernel
theorem dX10_back_29 : decode cX10_back 29 = .ok (.iaload, 1) := by decide +kernel
theorem dX10_back_30 : decode cX10_back 30 = .ok (.putfield 139, 3) := by decide +kernel
theorem dX10_back_33 : decode cX10_back 33 = .ok (.iconst 0, 1) := by decide +kernel
theorem dX10_back_34 : decode cX10_back 34 = .ok (.istore_n 1, 1) := by decide +kernel
theorem dX10_back_35 : decode cX10_back 35 = .ok (.iload_n 1, 1) := by decide +kernel
theorem dX10_back_36 : decode cX10_back 36 = .ok (.aload_n 0, 1) := by decide +kernel
theorem dX10_back_37 : decode cX10_back 37 = .ok (.getfield 139, 3) := by decide +kernel
theorem dX10_back_40 : decode cX10_back 40 = .ok (.if_icmp .ge 29, 3) := by decide +kernel
theorem dX10_back_43 : decode cX10_back 43 = .ok (.aload_n 0, 1) := by decide +kernel
theorem dX10_back_44 : decode cX10_back 44 = .ok (.getfield 43, 3) := by decide +kernel
theorem dX10_back_47 : decode cX10_back 47 = .ok (.iload_n 1, 1) := by decide +kernel
theorem dX10_back_48 : decode cX10_back 48 = .ok (.aload_n 0, 1) := by decide +kernel
theorem dX10_back_49 : decode cX10_back 49 = .ok (.getfield 46, 3) := by decide +kernel
theorem dX10_back_52 : decode cX10_back 52 = .ok (.bipush 6, 2) := by decide +kernel
theorem dX10_back_54 : decode cX10_back 54 = .ok (.aload_n 0, 1) := by decide +kernel
theorem dX10_back_55 : decode cX10_back 55 = .ok (.getfield 142, 3) := by decide +kernel
theorem dX10_back_58 : decode cX10_back 58 = .ok (.imul, 1) := by decide +kernel
theorem dX10_back_59 : decode cX10_back 59 = .ok (.iload_n 1, 1) := by decide +kernel
theorem dX10_back_60 : decode cX10_back 60 = .ok (.iadd, 1) := by decide +kernel
theorem dX10_back_61 : decode cX10_back 61 = .ok (.iaload, 1) := by decide +kernel
theorem dX10_back_62 : decode cX10_back 62 = .ok (.iastore, 1) := by decide +kernel
theorem dX10_back_63 : decode cX10_back 63 = .ok (.iinc 1 1, 3) := by decide +kernel
theorem dX10_back_66 : decode cX10_back 66 = .ok (.goto (-31), 3) := by decide +kernel
theorem dX10_back_69 : decode cX10_back 69 = .ok (.aload_n 0, 1) := by decide +kernel
theorem dX10_back_70 : decode cX10_back 70 = .ok (.getfield 142, 3) := by decide +kernel
theorem dX10_back_73 : decode cX10_back 73 = .ok (.ireturn, 1) := by decide +kernel
theorem dX10_count_0 : decode cX10_count 0 = .ok (.iload_n 1, 1) := by decide +kernel
theorem dX10_count_1 : decode cX10_count 1 = .ok (.tableswitch 131 0 12 #[67, 72, 72, 72, 81, 86, 91, 96, 101, 106, 111, 116, 121], 67) := by decide +kernel
theorem dX10_count_68 : decode cX10_count 68 = .ok (.aload_n 0, 1) := by decide +kernel
theorem dX10_count_69 : decode cX10_count 69 = .ok (.getfield 99, 3) := by decide +kernel
theorem dX10_count_72 : decode cX10_count 72 = .ok (.ireturn, 1) := by decide +kernel
theorem dX10_count_73 : decode cX10_count 73 = .ok (.aload_n 0, 1) := by decide +kernel
theorem dX10_count_74 : decode cX10_count 74 = .ok (.getfield 28, 3) := by decide +kernel
theorem dX10_count_77 : decode cX10_count 77 = .ok (.iload_n 1, 1) := by decide +kernel
theorem dX10_count_78 : decode cX10_count 78 = .ok (.iconst 1, 1) := by decide +kernel
theorem dX10_count_79 : decode cX10_count 79 = .ok (.isub, 1) := by decide +kernel
theorem dX10_count_80 : decode cX10_count 80 = .ok (.iaload, 1) := by decide +kernel
theorem dX10_count_81 : decode cX10_count 81 = .ok (.ireturn, 1) := by decide +kernel
theorem dX10_count_82 : decode cX10_count 82 = .ok (.aload_n 0, 1) := by decide +kernel
theorem dX10_count_83 : decode cX10_count 83 = .ok (.getfield 102, 3) := by decide +kernel
theorem dX10_count_86 : decode cX10_count 86 = .ok (.ireturn, 1) := by decide +kernel
theorem dX10_count_87 : decode cX10_count 87 = .ok (.aload_n 0, 1) := by decide +kernel
theorem dX10_count_88 : decode cX10_count 88 = .ok (.getfield 154, 3) := by decide +kernel
theorem dX10_count_91 : decode cX10_count 91 = .ok (.ireturn, 1) := by decide +kernel
theorem dX10_count_92 : decode cX10_count 92 = .ok (.aload_n 0, 1) := by decide +kernel
theorem dX10_count_93 : decode cX10_count 93 = .ok (.getfield 52, 3) := by decide +kernel
theorem dX10_count_96 : decode cX10_count 96 = .ok (.ireturn, 1) := by decide +kernel
theorem dX10_count_97 : decode cX10_count 97 = .ok (.aload_n 0, 1) := by decide +kernel
theorem dX10_count_98 : decode cX10_count 98 = .ok (.getfield 192, 3) := by decide +kernel
theorem dX10_count_101 : decode cX10_count 101 = .ok (.ireturn, 1) := by decide +kernel
theorem dX10_count_102 : decode cX10_count 102 = .ok (.aload_n 0, 1) := by decide +kernel
theorem dX10_count_103 : decode cX10_count 103 = .ok (.getfield 195, 3) := by decide +kernel
theorem dX10_count_106 : decode cX10_count 106 = .ok (.ireturn, 1) := by decide +kernel
theorem dX10_count_107 : decode cX10_count 107 = .ok (.aload_n 0, 1) := by decide +kernel
theorem dX10_count_108 : decode cX10_count 108 = .ok (.getfield 56, 3) := by decide +kernel
theorem dX10_count_111 : decode cX10_count 111 = .ok (.ireturn, 1) := by decide +kernel
theorem dX10_count_112 : decode cX10_count 112 = .ok (.aload_n 0, 1) := by decide +kernel
theorem dX10_count_113 : decode cX10_count 113 = .ok (.getfield 142, 3) := by decide +kernel
theorem dX10_count_116 : decode cX10_count 116 = .ok (.ireturn, 1) := by decide +kernel
theorem dX10_count_117 : decode cX10_count 117 = .ok (.aload_n 0, 1) := by decide +kernel
theorem dX10_count_118 : decode cX10_count 118 = .ok (.getfield 112, 3) := by decide +kernel
theorem dX10_count_121 : decode cX10_count 121 = .ok (.ireturn, 1) := by decide +kernel
theorem dX10_count_122 : decode cX10_count 122 = .ok (.aload_n 0, 1) := by decide +kernel
theorem dX10_count_123 : decode cX10_count 123 = .ok (.invokevirtual 182, 3) := by decide +kernel
theorem dX10_count_126 : decode cX10_count 126 = .ok (.ldc2_w 219, 3) := by decide +kernel
theorem dX10_count_129 : decode cX10_count 129 = .ok (.lrem, 1) := by decide +kernel
theorem dX10_count_130 : decode cX10_count 130 = .ok (.l2i, 1) := by decide +kernel
theorem dX10_count_131 : decode cX10_count 131 = .ok (.ireturn, 1) := by decide +kernel
theorem dX10_count_132 : decode cX10_count 132 = .ok (.iconst (-1), 1) := by decide +kernel
theorem dX10_count_133 : decode cX10_count 133 = .ok (.ireturn, 1) := by decide +kernel
theorem dL_law_0 : decode cL_law 0 = .ok (.new 7, 3) := by decide +kernel
theorem dL_law_3 : decode cL_law 3 = .ok (.dup, 1) := by decide +kernel
theorem dL_law_4 : decode cL_law 4 = .ok (.invokespecial 9, 3) := by decide +kernel
theorem dL_law_7 : decode cL_law 7 = .ok (.astore_n 1, 1) := by decide +kernel
theorem dL_law_8 : decode cL_law 8 = .ok (.new 10, 3) := by decide +kernel
theorem dL_law_11 : decode cL_law 11 = .ok (.dup, 1) := by decide +kernel
theorem dL_law_12 : decode cL_law 12 = .ok (.invokespecial 12, 3) := by decide +kernel
theorem dL_law_15 : decode cL_law 15 = .ok (.astore_n 2, 1) := by decide +kernel
theorem dL_law_16 : decode cL_law 16 = .ok (.iconst 0, 1) := by decide +kernel
theorem dL_law_17 : decode cL_law 17 = .ok (.istore_n 3, 1) := by decide +kernel
theorem dL_law_18 : decode cL_law 18 = .ok (.iload_n 3, 1) := by decide +kernel
theorem dL_law_19 : decode cL_law 19 = .ok (.aload_n 0, 1) := by decide +kernel
theorem dL_law_20 : decode cL_law 20 = .ok (.arraylength, 1) := by decide +kernel
theorem dL_law_21 : decode cL_law 21 = .ok (.iconst 4, 1) := by decide +kernel
theorem dL_law_22 : decode cL_law 22 = .ok (.isub, 1) := by decide +kernel
theorem dL_law_23 : decode cL_law 23 = .ok (.if_icmp .gt 733, 3) := by decide +kernel
theorem dL_law_26 : decode cL_law 26 = .ok (.aload_n 0, 1) := by decide +kernel
theorem dL_law_27 : decode cL_law 27 = .ok (.iload_n 3, 1) := by decide +kernel
theorem dL_law_28 : decode cL_law 28 = .ok (.iaload, 1) := by decide +kernel
theorem dL_law_29 : decode cL_law 29 = .ok (.bipush 31, 2) := by decide +kernel
theorem dL_law_31 : decode cL_law 31 = .ok (.iand, 1) := by decide +kernel
theorem dL_law_32 : decode cL_law 32 = .ok (.tableswitch 718 0 25 #[120, 143, 156, 169, 182, 215, 248, 271, 284, 297, 320, 343, 366, 389, 422, 465, 488, 511, 544, 567, 590, 613, 636, 669, 682, 695], 120) := by decide +kernel
theorem dL_law_152 : decode cL_law 152 = .ok (.aload_n 1, 1) := by decide +kernel
theorem dL_law_153 : decode cL_law 153 = .ok (.aload_n 0, 1) := by decide +kernel
theorem dL_law_154 : decode cL_law 154 = .ok (.iload_n 3, 1) := by decide +kernel
theorem dL_law_155 : decode cL_law 155 = .ok (.iconst 1, 1) := by decide +kernel
theorem dL_law_156 : decode cL_law 156 = .ok (.iadd, 1) := by decide +kernel
theorem dL_law_157 : decode cL_law 157 = .ok (.iaload, 1) := by decide +kernel
theorem dL_law_158 : decode cL_law 158 = .ok (.invokevirtual 13, 3) := by decide +kernel
theorem dL_law_161 : decode cL_law 161 = .ok (.aload_n 2, 1) := by decide +kernel
theorem dL_law_162 : decode cL_law 162 = .ok (.aload_n 0, 1) := by decide +kernel
theorem dL_law_163 : decode cL_law 163 = .ok (.iload_n 3, 1) := by decide +kernel
theorem dL_law_164 : decode cL_law 164 = .ok (.iconst 1, 1) := by decide +kernel
theorem dL_law_165 : decode cL_law 165 = .ok (.iadd, 1) := by decide +kernel
theorem dL_law_166 : decode cL_law 166 = .ok (.iaload, 1) := by decide +kernel
theorem dL_law_167 : decode cL_law 167 = .ok (.invokevirtual 17, 3) := by decide +kernel
theorem dL_law_170 : decode cL_law 170 = .ok (.if_icmp .eq 580, 3) := by decide +kernel
theorem dL_law_173 : decode cL_law 173 = .ok (.iconst 0, 1) := by decide +kernel
theorem dL_law_174 : decode cL_law 174 = .ok (.ireturn, 1) := by decide +kernel
theorem dL_law_175 : decode cL_law 175 = .ok (.aload_n 1, 1) := by decide +kernel
theorem dL_law_176 : decode cL_law 176 = .ok (.invokevirtual 18, 3) := by decide +kernel
theorem dL_law_179 : decode cL_law 179 = .ok (.aload_n 2, 1) := by decide +kernel
theorem dL_law_180 : decode cL_law 180 = .ok (.invokevirtual 22, 3) := by decide +kernel
theorem dL_law_183 : decode cL_law 183 = .ok (.if_icmp .eq 567, 3) := by decide +kernel
theorem dL_law_186 : decode cL_law 186 = .ok (.iconst 0, 1) := by decide +kernel
theorem dL_law_187 : decode cL_law 187 = .ok (.ireturn, 1) := by decide +kernel
theorem dL_law_188 : decode cL_law 188 = .ok (.aload_n 1, 1) := by decide +kernel
theorem dL_law_189 : decode cL_law 189 = .ok (.invokevirtual 23, 3) := by decide +kernel
theorem dL_law_192 : decode cL_law 192 = .ok (.aload_n 2, 1) := by decide +kernel
theorem dL_law_193 : decode cL_law 193 = .ok (.invokevirtual 26, 3) := by decide +kernel
theorem dL_law_196 : decode cL_law 196 = .ok (.if_icmp .eq 554, 3) := by decide +kernel
theorem dL_law_199 : decode cL_law 199 = .ok (.iconst 0, 1) := by decide +kernel
theorem dL_law_200 : decode cL_law 200 = .ok (.ireturn, 1) := by decide +kernel
theorem dL_law_201 : decode cL_law 201 = .ok (.aload_n 1, 1) := by decide +kernel
theorem dL_law_202 : decode cL_law 202 = .ok (.invokevirtual 27, 3) := by decide +kernel
theorem dL_law_205 : decode cL_law 205 = .ok (.aload_n 2, 1) := by decide +kernel
theorem dL_law_206 : decode cL_law 206 = .ok (.invokevirtual 30, 3) := by decide +kernel
theorem dL_law_209 : decode cL_law 209 = .ok (.if_icmp .eq 541, 3) := by decide +kernel
theorem dL_law_212 : decode cL_law 212 = .ok (.iconst 0, 1) := by decide +kernel
theorem dL_law_213 : decode cL_law 213 = .ok (.ireturn, 1) := by decide +kernel
theorem dL_law_214 : decode cL_law 214 = .ok (.aload_n 1, 1) := by decide +kernel
theorem dL_law_215 : decode cL_law 215 = .ok (.aload_n 0, 1) := by decide +kernel
theorem dL_law_216 : decode cL_law 216 = .ok (.iload_n 3, 1) := by decide +kernel
theorem dL_law_217 : decode cL_law 217 = .ok (.iconst 1, 1) := by decide +kernel
theorem dL_law_218 : decode cL_law 218 = .ok (.iadd, 1) := by decide +kernel
theorem dL_law_219 : decode cL_law 219 = .ok (.iaload, 1) := by decide +kernel
theorem dL_law_220 : decode cL_law 220 = .ok (.aload_n 0, 1) := by decide +kernel
theorem dL_law_221 : decode cL_law 221 = .ok (.iload_n 3, 1) := by decide +kernel
theorem dL_law_222 : decode cL_law 222 = .ok (.iconst 2, 1) := by decide +kernel
theorem dL_law_223 : decode cL_law 223 = .ok (.iadd, 1) := by decide +kernel
theorem dL_law_224 : decode cL_law 224 = .ok (.iaload, 1) := by decide +kernel
theorem dL_law_225 : decode cL_law 225 = .ok (.invokevirtual 31, 3) := by decide +kernel
theorem dL_law_228 : decode cL_law 228 = .ok (.aload_n 2, 1) := by decide +kernel
theorem dL_law_229 : decode cL_law 229 = .ok (.aload_n 0, 1) := by decide +kernel
theorem dL_law_230 : decode cL_law 230 = .ok (.iload_n 3, 1) := by decide +kernel
theorem dL_law_231 : decode cL_law 231 = .ok (.iconst 1, 1) := by decide +kernel
theorem dL_law_232 : decode cL_law 232 = .ok (.iadd, 1) := by decide +kernel
theorem dL_law_233 : decode cL_law 233 = .ok (.iaload, 1) := by decide +kernel
theorem dL_law_234 : decode cL_law 234 = .ok (.aload_n 0, 1) := by decide +kernel
theorem dL_law_235 : decode cL_law 235 = .ok (.iload_n 3, 1) := by decide +kernel
theorem dL_law_236 : decode cL_law 236 = .ok (.iconst 2, 1) := by decide +kernel
theorem dL_law_237 : decode cL_law 237 = .ok (.iadd, 1) := by decide +kernel
theorem dL_law_238 : decode cL_law 238 = .ok (.iaload, 1) := by decide +kernel
theorem dL_law_239 : decode cL_law 239 = .ok (.invokevirtual 35, 3) := by decide +kernel
theorem dL_law_242 : decode cL_law 242 = .ok (.if_icmp .eq 508, 3) := by decide +kernel
theorem dL_law_245 : decode cL_law 245 = .ok (.iconst 0, 1) := by decide +kernel
theorem dL_law_246 : decode cL_law 246 = .ok (.ireturn, 1) := by decide +kernel
theorem dL_law_247 : decode cL_law 247 = .ok (.aload_n 1, 1) := by decide +kernel
theorem dL_law_248 : decode cL_law 248 = .ok (.aload_n 0, 1) := by decide +kernel
theorem dL_law_249 : decode cL_law 249 = .ok (.iload_n 3, 1) := by decide +kernel
theorem dL_law_250 : decode cL_law 250 = .ok (.iconst 1, 1) := by decide +kernel
theorem dL_law_251 : decode cL_law 251 = .ok (.iadd, 1) := by decide +kernel
theorem dL_law_252 : decode cL_law 252 = .ok (.iaload, 1) := by decide +kernel
theorem dL_law_253 : decode cL_law 253 = .ok (.aload_n 0, 1) := by decide +kernel
theorem dL_law_254 : decode cL_law 254 = .ok (.iload_n 3, 1) := by decide +kernel
theorem dL_law_255 : decode cL_law 255 = .ok (.iconst 2, 1) := by decide +kernel
theorem dL_law_256 : decode cL_law 256 = .ok (.iadd, 1) := by decide +kernel
theorem dL_law_257 : decode cL_law 257 = .ok (.iaload, 1) := by decide +kernel
theorem dL_law_258 : decode cL_law 258 = .ok (.invokevirtual 36, 3) := by decide +kernel
theorem dL_law_261 : decode cL_law 261 = .ok (.aload_n 2, 1) := by decide +kernel
theorem dL_law_262 : decode cL_law 262 = .ok (.aload_n 0, 1) := by decide +kernel
theorem dL_law_263 : decode cL_law 263 = .ok (.iload_n 3, 1) := by decide +kernel
theorem dL_law_264 : decode cL_law 264 = .ok (.iconst 1, 1) := by decide +kernel
theorem dL_law_265 : decode cL_law 265 = .ok (.iadd, 1) := by decide +kernel
theorem dL_law_266 : decode cL_law 266 = .ok (.iaload, 1) := by decide +kernel
theorem dL_law_267 : decode cL_law 267 = .ok (.aload_n 0, 1) := by decide +kernel
theorem dL_law_268 : decode cL_law 268 = .ok (.iload_n 3, 1) := by decide +kernel
theorem dL_law_269 : decode cL_law 269 = .ok (.iconst 2, 1) := by decide +kernel
theorem dL_law_270 : decode cL_law 270 = .ok (.iadd, 1) := by decide +kernel
theorem dL_law_271 : decode cL_law 271 = .ok (.iaload, 1) := by decide +kernel
theorem dL_law_272 : decode cL_law 272 = .ok (.invokevirtual 39, 3) := by decide +kernel
theorem dL_law_275 : decode cL_law 275 = .ok (.if_icmp .eq 475, 3) := by decide +kernel
theorem dL_law_278 : decode cL_law 278 = .ok (.iconst 0, 1) := by decide +kernel
theorem dL_law_279 : decode cL_law 279 = .ok (.ireturn, 1) := by decide +kernel
theorem dL_law_280 : decode cL_law 280 = .ok (.aload_n 1, 1) := by decide +kernel
theorem dL_law_281 : decode cL_law 281 = .ok (.aload_n 0, 1) := by decide +kernel
theorem dL_law_282 : decode cL_law 282 = .ok (.iload_n 3, 1) := by decide +kernel
theorem dL_law_283 : decode cL_law 283 = .ok (.iconst 1, 1) := by decide +kernel
theorem dL_law_284 : decode cL_law 284 = .ok (.iadd, 1) := by decide +kernel
theorem dL_law_285 : decode cL_law 285 = .ok (.iaload, 1) := by decide +kernel
theorem dL_law_286 : decode cL_law 286 = .ok (.invokevirtual 40, 3) := by decide +kernel
theorem dL_law_289 : decode cL_law 289 = .ok (.aload_n 2, 1) := by decide +kernel
theorem dL_law_290 : decode cL_law 290 = .ok (.aload_n 0, 1) := by decide +kernel
theorem dL_law_291 : decode cL_law 291 = .ok (.iload_n 3, 1) := by decide +kernel
theorem dL_law_292 : decode cL_law 292 = .ok (.iconst 1, 1) := by decide +kernel
theorem dL_law_293 : decode cL_law 293 = .ok (.iadd, 1) := by decide +kernel
theorem dL_law_294 : decode cL_law 294 = .ok (.iaload, 1) := by decide +kernel
theorem dL_law_295 : decode cL_law 295 = .ok (.invokevirtual 43, 3) := by decide +kernel
theorem dL_law_298 : decode cL_law 298 = .ok (.if_icmp .eq 452, 3) := by decide +kernel
theorem dL_law_301 : decode cL_law 301 = .ok (.iconst 0, 1) := by decide +kernel
theorem dL_law_302 : decode cL_law 302 = .ok (.ireturn, 1) := by decide +kernel
theorem dL_law_303 : decode cL_law 303 = .ok (.aload_n 1, 1) := by decide +kernel
theorem dL_law_304 : decode cL_law 304 = .ok (.invokevirtual 44, 3) := by decide +kernel
theorem dL_law_307 : decode cL_law 307 = .ok (.aload_n 2, 1) := by decide +kernel
theorem dL_law_308 : decode cL_law 308 = .ok (.invokevirtual 47, 3) := by decide +kernel
theorem dL_law_311 : decode cL_law 311 = .ok (.if_icmp .eq 439, 3) := by decide +kernel
theorem dL_law_314 : decode cL_law 314 = .ok (.iconst 0, 1) := by decide +kernel
theorem dL_law_315 : decode cL_law 315 = .ok (.ireturn, 1) := by decide +kernel
theorem dL_law_316 : decode cL_law 316 = .ok (.aload_n 1, 1) := by decide +kernel
theorem dL_law_317 : decode cL_law 317 = .ok (.invokevirtual 48, 3) := by decide +kernel
theorem dL_law_320 : decode cL_law 320 = .ok (.aload_n 2, 1) := by decide +kernel
theorem dL_law_321 : decode cL_law 321 = .ok (.invokevirtual 51, 3) := by decide +kernel
theorem dL_law_324 : decode cL_law 324 = .ok (.if_icmp .eq 426, 3) := by decide +kernel
theorem dL_law_327 : decode cL_law 327 = .ok (.iconst 0, 1) := by decide +kernel
theorem dL_law_328 : decode cL_law 328 = .ok (.ireturn, 1) := by decide +kernel
theorem dL_law_329 : decode cL_law 329 = .ok (.aload_n 1, 1) := by decide +kernel
theorem dL_law_330 : decode cL_law 330 = .ok (.aload_n 0, 1) := by decide +kernel
theorem dL_law_331 : decode cL_law 331 = .ok (.iload_n 3, 1) := by decide +kernel
theorem dL_law_332 : decode cL_law 332 = .ok (.iconst 1, 1) := by decide +kernel
theorem dL_law_333 : decode cL_law 333 = .ok (.iadd, 1) := by decide +kernel
theorem dL_law_334 : decode cL_law 334 = .ok (.iaload, 1) := by decide +kernel
theorem dL_law_335 : decode cL_law 335 = .ok (.invokevirtual 52, 3) := by decide +kernel
theorem dL_law_338 : decode cL_law 338 = .ok (.aload_n 2, 1) := by decide +kernel
theorem dL_law_339 : decode cL_law 339 = .ok (.aload_n 0, 1) := by decide +kernel
theorem dL_law_340 : decode cL_law 340 = .ok (.iload_n 3, 1) := by decide +kernel
theorem dL_law_341 : decode cL_law 341 = .ok (.iconst 1, 1) := by decide +kernel
theorem dL_law_342 : decode cL_law 342 = .ok (.iadd, 1) := by decide +kernel
theorem dL_law_343 : decode cL_law 343 = .ok (.iaload, 1) := by decide +kernel
theorem dL_law_344 : decode cL_law 344 = .ok (.invokevirtual 55, 3) := by decide +kernel
theorem dL_law_347 : decode cL_law 347 = .ok (.if_icmp .eq 403, 3) := by decide +kernel
theorem dL_law_350 : decode cL_law 350 = .ok (.iconst 0, 1) := by decide +kernel
theorem dL_law_351 : decode cL_law 351 = .ok (.ireturn, 1) := by decide +kernel
theorem dL_law_352 : decode cL_law 352 = .ok (.aload_n 1, 1) := by decide +kernel
theorem dL_law_353 : decode cL_law 353 = .ok (.aload_n 0, 1) := by decide +kernel
theorem dL_law_354 : decode cL_law 354 = .ok (.iload_n 3, 1) := by decide +kernel
theorem dL_law_355 : decode cL_law 355 = .ok (.iconst 1, 1) := by decide +kernel
theorem dL_law_356 : decode cL_law 356 = .ok (.iadd, 1) := by decide +kernel
theorem dL_law_357 : decode cL_law 357 = .ok (.iaload, 1) := by decide +kernel
theorem dL_law_358 : decode cL_law 358 = .ok (.invokevirtual 56, 3) := by decide +kernel
theorem dL_law_361 : decode cL_law 361 = .ok (.aload_n 2, 1) := by decide +kernel
theorem dL_law_362 : decode cL_law 362 = .ok (.aload_n 0, 1) := by decide +kernel
theorem dL_law_363 : decode cL_law 363 = .ok (.iload_n 3, 1) := by decide +kernel
theorem dL_law_364 : decode cL_law 364 = .ok (.iconst 1, 1) := by decide +kernel
theorem dL_law_365 : decode cL_law 365 = .ok (.iadd, 1) := by decide +kernel
theorem dL_law_366 : decode cL_law 366 = .ok (.iaload, 1) := by decide +kernel
theorem dL_law_367 : decode cL_law 367 = .ok (.invokevirtual 59, 3) := by decide +kernel
theorem dL_law_370 : decode cL_law 370 = .ok (.if_icmp .eq 380, 3) := by decide +kernel
theorem dL_law_373 : decode cL_law 373 = .ok (.iconst 0, 1) := by decide +kernel
theorem dL_law_374 : decode cL_law 374 = .ok (.ireturn, 1) := by decide +kernel
theorem dL_law_375 : decode cL_law 375 = .ok (.aload_n 1, 1) := by decide +kernel
theorem dL_law_376 : decode cL_law 376 = .ok (.aload_n 0, 1) := by decide +kernel
theorem dL_law_377 : decode cL_law 377 = .ok (.iload_n 3, 1) := by decide +kernel
theorem dL_law_378 : decode cL_law 378 = .ok (.iconst 1, 1) := by decide +kernel
theorem dL_law_379 : decode cL_law 379 = .ok (.iadd, 1) := by decide +kernel
theorem dL_law_380 : decode cL_law 380 = .ok (.iaload, 1) := by decide +kernel
theorem dL_law_381 : decode cL_law 381 = .ok (.invokevirtual 60, 3) := by decide +kernel
theorem dL_law_384 : decode cL_law 384 = .ok (.aload_n 2, 1) := by decide +kernel
theorem dL_law_385 : decode cL_law 385 = .ok (.aload_n 0, 1) := by decide +kernel
theorem dL_law_386 : decode cL_law 386 = .ok (.iload_n 3, 1) := by decide +kernel
theorem dL_law_387 : decode cL_law 387 = .ok (.iconst 1, 1) := by decide +kernel
theorem dL_law_388 : decode cL_law 388 = .ok (.iadd, 1) := by decide +kernel
theorem dL_law_389 : decode cL_law 389 = .ok (.iaload, 1) := by decide +kernel
theorem dL_law_390 : decode cL_law 390 = .ok (.invokevirtual 63, 3) := by decide +kernel
theorem dL_law_393 : decode cL_law 393 = .ok (.if_icmp .eq 357, 3) := by decide +kernel
theorem dL_law_396 : decode cL_law 396 = .ok (.iconst 0, 1) := by decide +kernel
theorem dL_law_397 : decode cL_law 397 = .ok (.ireturn, 1) := by decide +kernel
theorem dL_law_398 : decode cL_law 398 = .ok (.aload_n 1, 1) := by decide +kernel
theorem dL_law_399 : decode cL_law 399 = .ok (.aload_n 0, 1) := by decide +kernel
theorem dL_law_400 : decode cL_law 400 = .ok (.iload_n 3, 1) := by decide +kernel
theorem dL_law_401 : decode cL_law 401 = .ok (.iconst 1, 1) := by decide +kernel
theorem dL_law_402 : decode cL_law 402 = .ok (.iadd, 1) := by decide +kernel
theorem dL_law_403 : decode cL_law 403 = .ok (.iaload, 1) := by decide +kernel
theorem dL_law_404 : decode cL_law 404 = .ok (.invokevirtual 64, 3) := by decide +kernel
theorem dL_law_407 : decode cL_law 407 = .ok (.aload_n 2, 1) := by decide +kernel
theorem dL_law_408 : decode cL_law 408 = .ok (.aload_n 0, 1) := by decide +kernel
theorem dL_law_409 : decode cL_law 409 = .ok (.iload_n 3, 1) := by decide +kernel
theorem dL_law_410 : decode cL_law 410 = .ok (.iconst 1, 1) := by decide +kernel
theorem dL_law_411 : decode cL_law 411 = .ok (.iadd, 1) := by decide +kernel
theorem dL_law_412 : decode cL_law 412 = .ok (.iaload, 1) := by decide +kernel
theorem dL_law_413 : decode cL_law 413 = .ok (.invokevirtual 67, 3) := by decide +kernel
theorem dL_law_416 : decode cL_law 416 = .ok (.if_icmp .eq 334, 3) := by decide +kernel
theorem dL_law_419 : decode cL_law 419 = .ok (.iconst 0, 1) := by decide +kernel
theorem dL_law_420 : decode cL_law 420 = .ok (.ireturn, 1) := by decide +kernel
theorem dL_law_421 : decode cL_law 421 = .ok (.aload_n 1, 1) := by decide +kernel
theorem dL_law_422 : decode cL_law 422 = .ok (.aload_n 0, 1) := by decide +kernel
theorem dL_law_423 : decode cL_law 423 = .ok (.iload_n 3, 1) := by decide +kernel
theorem dL_law_424 : decode cL_law 424 = .ok (.iconst 1, 1) := by decide +kernel
theorem dL_law_425 : decode cL_law 425 = .ok (.iadd, 1) := by decide +kernel
theorem dL_law_426 : decode cL_law 426 = .ok (.iaload, 1) := by decide +kernel
theorem dL_law_427 : decode cL_law 427 = .ok (.aload_n 0, 1) := by decide +kernel
theorem dL_law_428 : decode cL_law 428 = .ok (.iload_n 3, 1) := by decide +kernel
theorem dL_law_429 : decode cL_law 429 = .ok (.iconst 2, 1) := by decide +kernel
theorem dL_law_430 : decode cL_law 430 = .ok (.iadd, 1) := by decide +kernel
theorem dL_law_431 : decode cL_law 431 = .ok (.iaload, 1) := by decide +kernel
theorem dL_law_432 : decode cL_law 432 = .ok (.invokevirtual 68, 3) := by decide +kernel
theorem dL_law_435 : decode cL_law 435 = .ok (.aload_n 2, 1) := by decide +kernel
theorem dL_law_436 : decode cL_law 436 = .ok (.aload_n 0, 1) := by decide +kernel
theorem dL_law_437 : decode cL_law 437 = .ok (.iload_n 3, 1) := by decide +kernel
theorem dL_law_438 : decode cL_law 438 = .ok (.iconst 1, 1) := by decide +kernel
theorem dL_law_439 : decode cL_law 439 = .ok (.iadd, 1) := by decide +kernel
theorem dL_law_440 : decode cL_law 440 = .ok (.iaload, 1) := by decide +kernel
theorem dL_law_441 : decode cL_law 441 = .ok (.aload_n 0, 1) := by decide +kernel
theorem dL_law_442 : decode cL_law 442 = .ok (.iload_n 3, 1) := by decide +kernel
theorem dL_law_443 : decode cL_law 443 = .ok (.iconst 2, 1) := by decide +kernel
theorem dL_law_444 : decode cL_law 444 = .ok (.iadd, 1) := by decide +kernel
theorem dL_law_445 : decode cL_law 445 = .ok (.iaload, 1) := by decide +kernel
theorem dL_law_446 : decode cL_law 446 = .ok (.invokevirtual 71, 3) := by decide +kernel
theorem dL_law_449 : decode cL_law 449 = .ok (.if_icmp .eq 301, 3) := by decide +kernel
theorem dL_law_452 : decode cL_law 452 = .ok (.iconst 0, 1) := by decide +kernel
theorem dL_law_453 : decode cL_law 453 = .ok (.ireturn, 1) := by decide +kernel
theorem dL_law_454 : decode cL_law 454 = .ok (.aload_n 1, 1) := by decide +kernel
theorem dL_law_455 : decode cL_law 455 = .ok (.aload_n 0, 1) := by decide +kernel
theorem dL_law_456 : decode cL_law 456 = .ok (.iload_n 3, 1) := by decide +kernel
theorem dL_law_457 : decode cL_law 457 = .ok (.iconst 1, 1) := by decide +kernel
theorem dL_law_458 : decode cL_law 458 = .ok (.iadd, 1) := by decide +kernel
theorem dL_law_459 : decode cL_law 459 = .ok (.iaload, 1) := by decide +kernel
theorem dL_law_460 : decode cL_law 460 = .ok (.aload_n 0, 1) := by decide +kernel
theorem dL_law_461 : decode cL_law 461 = .ok (.iload_n 3, 1) := by decide +kernel
theorem dL_law_462 : decode cL_law 462 = .ok (.iconst 2, 1) := by decide +kernel
theorem dL_law_463 : decode cL_law 463 = .ok (.iadd, 1) := by decide +kernel
theorem dL_law_464 : decode cL_law 464 = .ok (.iaload, 1) := by decide +kernel
theorem dL_law_465 : decode cL_law 465 = .ok (.aload_n 0, 1) := by decide +kernel
theorem dL_law_466 : decode cL_law 466 = .ok (.iload_n 3, 1) := by decide +kernel
theorem dL_law_467 : decode cL_law 467 = .ok (.iconst 3, 1) := by decide +kernel
theorem dL_law_468 : decode cL_law 468 = .ok (.iadd, 1) := by decide +kernel
theorem dL_law_469 : decode cL_law 469 = .ok (.iaload, 1) := by decide +kernel
theorem dL_law_470 : decode cL_law 470 = .ok (.invokevirtual 72, 3) := by decide +kernel
theorem dL_law_473 : decode cL_law 473 = .ok (.aload_n 2, 1) := by decide +kernel
theorem dL_law_474 : decode cL_law 474 = .ok (.aload_n 0, 1) := by decide +kernel
theorem dL_law_475 : decode cL_law 475 = .ok (.iload_n 3, 1) := by decide +kernel
theorem dL_law_476 : decode cL_law 476 = .ok (.iconst 1, 1) := by decide +kernel
theorem dL_law_477 : decode cL_law 477 = .ok (.iadd, 1) := by decide +kernel
theorem dL_law_478 : decode cL_law 478 = .ok (.iaload, 1) := by decide +kernel
theorem dL_law_479 : decode cL_law 479 = .ok (.aload_n 0, 1) := by decide +kernel
theorem dL_law_480 : decode cL_law 480 = .ok (.iload_n 3, 1) := by decide +kernel
theorem dL_law_481 : decode cL_law 481 = .ok (.iconst 2, 1) := by decide +kernel
theorem dL_law_482 : decode cL_law 482 = .ok (.iadd, 1) := by decide +kernel
theorem dL_law_483 : decode cL_law 483 = .ok (.iaload, 1) := by decide +kernel
theorem dL_law_484 : decode cL_law 484 = .ok (.aload_n 0, 1) := by decide +kernel
theorem dL_law_485 : decode cL_law 485 = .ok (.iload_n 3, 1) := by decide +kernel
theorem dL_law_486 : decode cL_law 486 = .ok (.iconst 3, 1) := by decide +kernel
theorem dL_law_487 : decode cL_law 487 = .ok (.iadd, 1) := by decide +kernel
theorem dL_law_488 : decode cL_law 488 = .ok (.iaload, 1) := by decide +kernel
theorem dL_law_489 : decode cL_law 489 = .ok (.invokevirtual 76, 3) := by decide +kernel
theorem dL_law_492 : decode cL_law 492 = .ok (.if_icmp .eq 258, 3) := by decide +kernel
theorem dL_law_495 : decode cL_law 495 = .ok (.iconst 0, 1) := by decide +kernel
theorem dL_law_496 : decode cL_law 496 = .ok (.ireturn, 1) := by decide +kernel
theorem dL_law_497 : decode cL_law 497 = .ok (.aload_n 1, 1) := by decide +kernel
theorem dL_law_498 : decode cL_law 498 = .ok (.aload_n 0, 1) := by decide +kernel
theorem dL_law_499 : decode cL_law 499 = .ok (.iload_n 3, 1) := by decide +kernel
theorem dL_law_500 : decode cL_law 500 = .ok (.iconst 1, 1) := by decide +kernel
theorem dL_law_501 : decode cL_law 501 = .ok (.iadd, 1) := by decide +kernel
theorem dL_law_502 : decode cL_law 502 = .ok (.iaload, 1) := by decide +kernel
theorem dL_law_503 : decode cL_law 503 = .ok (.invokevirtual 77, 3) := by decide +kernel
theorem dL_law_506 : decode cL_law 506 = .ok (.aload_n 2, 1) := by decide +kernel
theorem dL_law_507 : decode cL_law 507 = .ok (.aload_n 0, 1) := by decide +kernel
theorem dL_law_508 : decode cL_law 508 = .ok (.iload_n 3, 1) := by decide +kernel
theorem dL_law_509 : decode cL_law 509 = .ok (.iconst 1, 1) := by decide +kernel
theorem dL_law_510 : decode cL_law 510 = .ok (.iadd, 1) := by decide +kernel
theorem dL_law_511 : decode cL_law 511 = .ok (.iaload, 1) := by decide +kernel
theorem dL_law_512 : decode cL_law 512 = .ok (.invokevirtual 80, 3) := by decide +kernel
theorem dL_law_515 : decode cL_law 515 = .ok (.if_icmp .eq 235, 3) := by decide +kernel
theorem dL_law_518 : decode cL_law 518 = .ok (.iconst 0, 1) := by decide +kernel
theorem dL_law_519 : decode cL_law 519 = .ok (.ireturn, 1) := by decide +kernel
theorem dL_law_520 : decode cL_law 520 = .ok (.aload_n 1, 1) := by decide +kernel
theorem dL_law_521 : decode cL_law 521 = .ok (.aload_n 0, 1) := by decide +kernel
theorem dL_law_522 : decode cL_law 522 = .ok (.iload_n 3, 1) := by decide +kernel
theorem dL_law_523 : decode cL_law 523 = .ok (.iconst 1, 1) := by decide +kernel
theorem dL_law_524 : decode cL_law 524 = .ok (.iadd, 1) := by decide +kernel
theorem dL_law_525 : decode cL_law 525 = .ok (.iaload, 1) := by decide +kernel
theorem dL_law_526 : decode cL_law 526 = .ok (.invokevirtual 81, 3) := by decide +kernel
theorem dL_law_529 : decode cL_law 529 = .ok (.aload_n 2, 1) := by decide +kernel
theorem dL_law_530 : decode cL_law 530 = .ok (.aload_n 0, 1) := by decide +kernel
theorem dL_law_531 : decode cL_law 531 = .ok (.iload_n 3, 1) := by decide +kernel
theorem dL_law_532 : decode cL_law 532 = .ok (.iconst 1, 1) := by decide +kernel
theorem dL_law_533 : decode cL_law 533 = .ok (.iadd, 1) := by decide +kernel
theorem dL_law_534 : decode cL_law 534 = .ok (.iaload, 1) := by decide +kernel
theorem dL_law_535 : decode cL_law 535 = .ok (.invokevirtual 84, 3) := by decide +kernel
theorem dL_law_538 : decode cL_law 538 = .ok (.if_icmp .eq 212, 3) := by decide +kernel
theorem dL_law_541 : decode cL_law 541 = .ok (.iconst 0, 1) := by decide +kernel
theorem dL_law_542 : decode cL_law 542 = .ok (.ireturn, 1) := by decide +kernel
theorem dL_law_543 : decode cL_law 543 = .ok (.aload_n 1, 1) := by decide +kernel
theorem dL_law_544 : decode cL_law 544 = .ok (.aload_n 0, 1) := by decide +kernel
theorem dL_law_545 : decode cL_law 545 = .ok (.iload_n 3, 1) := by decide +kernel
theorem dL_law_546 : decode cL_law 546 = .ok (.iconst 1, 1) := by decide +kernel
theorem dL_law_547 : decode cL_law 547 = .ok (.iadd, 1) := by decide +kernel
theorem dL_law_548 : decode cL_law 548 = .ok (.iaload, 1) := by decide +kernel
theorem dL_law_549 : decode cL_law 549 = .ok (.aload_n 0, 1) := by decide +kernel
theorem dL_law_550 : decode cL_law 550 = .ok (.iload_n 3, 1) := by decide +kernel
theorem dL_law_551 : decode cL_law 551 = .ok (.iconst 2, 1) := by decide +kernel
theorem dL_law_552 : decode cL_law 552 = .ok (.iadd, 1) := by decide +kernel
theorem dL_law_553 : decode cL_law 553 = .ok (.iaload, 1) := by decide +kernel
theorem dL_law_554 : decode cL_law 554 = .ok (.invokevirtual 85, 3) := by decide +kernel
theorem dL_law_557 : decode cL_law 557 = .ok (.aload_n 2, 1) := by decide +kernel
theorem dL_law_558 : decode cL_law 558 = .ok (.aload_n 0, 1) := by decide +kernel
theorem dL_law_559 : decode cL_law 559 = .ok (.iload_n 3, 1) := by decide +kernel
theorem dL_law_560 : decode cL_law 560 = .ok (.iconst 1, 1) := by decide +kernel
theorem dL_law_561 : decode cL_law 561 = .ok (.iadd, 1) := by decide +kernel
theorem dL_law_562 : decode cL_law 562 = .ok (.iaload, 1) := by decide +kernel
theorem dL_law_563 : decode cL_law 563 = .ok (.aload_n 0, 1) := by decide +kernel
theorem dL_law_564 : decode cL_law 564 = .ok (.iload_n 3, 1) := by decide +kernel
theorem dL_law_565 : decode cL_law 565 = .ok (.iconst 2, 1) := by decide +kernel
theorem dL_law_566 : decode cL_law 566 = .ok (.iadd, 1) := by decide +kernel
theorem dL_law_567 : decode cL_law 567 = .ok (.iaload, 1) := by decide +kernel
theorem dL_law_568 : decode cL_law 568 = .ok (.invokevirtual 88, 3) := by decide +kernel
theorem dL_law_571 : decode cL_law 571 = .ok (.if_icmp .eq 179, 3) := by decide +kernel
theorem dL_law_574 : decode cL_law 574 = .ok (.iconst 0, 1) := by decide +kernel
theorem dL_law_575 : decode cL_law 575 = .ok (.ireturn, 1) := by decide +kernel
theorem dL_law_576 : decode cL_law 576 = .ok (.aload_n 1, 1) := by decide +kernel
theorem dL_law_577 : decode cL_law 577 = .ok (.aload_n 0, 1) := by decide +kernel
theorem dL_law_578 : decode cL_law 578 = .ok (.iload_n 3, 1) := by decide +kernel
theorem dL_law_579 : decode cL_law 579 = .ok (.iconst 1, 1) := by decide +kernel
theorem dL_law_580 : decode cL_law 580 = .ok (.iadd, 1) := by decide +kernel
theorem dL_law_581 : decode cL_law 581 = .ok (.iaload, 1) := by decide +kernel
theorem dL_law_582 : decode cL_law 582 = .ok (.invokevirtual 89, 3) := by decide +kernel
theorem dL_law_585 : decode cL_law 585 = .ok (.aload_n 2, 1) := by decide +kernel
theorem dL_law_586 : decode cL_law 586 = .ok (.aload_n 0, 1) := by decide +kernel
theorem dL_law_587 : decode cL_law 587 = .ok (.iload_n 3, 1) := by decide +kernel
theorem dL_law_588 : decode cL_law 588 = .ok (.iconst 1, 1) := by decide +kernel
theorem dL_law_589 : decode cL_law 589 = .ok (.iadd, 1) := by decide +kernel
theorem dL_law_590 : decode cL_law 590 = .ok (.iaload, 1) := by decide +kernel
theorem dL_law_591 : decode cL_law 591 = .ok (.invokevirtual 92, 3) := by decide +kernel
theorem dL_law_594 : decode cL_law 594 = .ok (.if_icmp .eq 156, 3) := by decide +kernel
theorem dL_law_597 : decode cL_law 597 = .ok (.iconst 0, 1) := by decide +kernel
theorem dL_law_598 : decode cL_law 598 = .ok (.ireturn, 1) := by decide +kernel
theorem dL_law_599 : decode cL_law 599 = .ok (.aload_n 1, 1) := by decide +kernel
theorem dL_law_600 : decode cL_law 600 = .ok (.aload_n 0, 1) := by decide +kernel
theorem dL_law_601 : decode cL_law 601 = .ok (.iload_n 3, 1) := by decide +kernel
theorem dL_law_602 : decode cL_law 602 = .ok (.iconst 1, 1) := by decide +kernel
theorem dL_law_603 : decode cL_law 603 = .ok (.iadd, 1) := by decide +kernel
theorem dL_law_604 : decode cL_law 604 = .ok (.iaload, 1) := by decide +kernel
theorem dL_law_605 : decode cL_law 605 = .ok (.invokevirtual 93, 3) := by decide +kernel
theorem dL_law_608 : decode cL_law 608 = .ok (.aload_n 2, 1) := by decide +kernel
theorem dL_law_609 : decode cL_law 609 = .ok (.aload_n 0, 1) := by decide +kernel
theorem dL_law_610 : decode cL_law 610 = .ok (.iload_n 3, 1) := by decide +kernel
theorem dL_law_611 : decode cL_law 611 = .ok (.iconst 1, 1) := by decide +kernel
theorem dL_law_612 : decode cL_law 612 = .ok (.iadd, 1) := by decide +kernel
theorem dL_law_613 : decode cL_law 613 = .ok (.iaload, 1) := by decide +kernel
theorem dL_law_614 : decode cL_law 614 = .ok (.invokevirtual 96, 3) := by decide +kernel
theorem dL_law_617 : decode cL_law 617 = .ok (.if_icmp .eq 133, 3) := by decide +kernel
theorem dL_law_620 : decode cL_law 620 = .ok (.iconst 0, 1) := by decide +kernel
theorem dL_law_621 : decode cL_law 621 = .ok (.ireturn, 1) := by decide +kernel
theorem dL_law_622 : decode cL_law 622 = .ok (.aload_n 1, 1) := by decide +kernel
theorem dL_law_623 : decode cL_law 623 = .ok (.aload_n 0, 1) := by decide +kernel
theorem dL_law_624 : decode cL_law 624 = .ok (.iload_n 3, 1) := by decide +kernel
theorem dL_law_625 : decode cL_law 625 = .ok (.iconst 1, 1) := by decide +kernel
theorem dL_law_626 : decode cL_law 626 = .ok (.iadd, 1) := by decide +kernel
theorem dL_law_627 : decode cL_law 627 = .ok (.iaload, 1) := by decide +kernel
theorem dL_law_628 : decode cL_law 628 = .ok (.invokevirtual 97, 3) := by decide +kernel
theorem dL_law_631 : decode cL_law 631 = .ok (.aload_n 2, 1) := by decide +kernel
theorem dL_law_632 : decode cL_law 632 = .ok (.aload_n 0, 1) := by decide +kernel
theorem dL_law_633 : decode cL_law 633 = .ok (.iload_n 3, 1) := by decide +kernel
theorem dL_law_634 : decode cL_law 634 = .ok (.iconst 1, 1) := by decide +kernel
theorem dL_law_635 : decode cL_law 635 = .ok (.iadd, 1) := by decide +kernel
theorem dL_law_636 : decode cL_law 636 = .ok (.iaload, 1) := by decide +kernel
theorem dL_law_637 : decode cL_law 637 = .ok (.invokevirtual 100, 3) := by decide +kernel
theorem dL_law_640 : decode cL_law 640 = .ok (.if_icmp .eq 110, 3) := by decide +kernel
theorem dL_law_643 : decode cL_law 643 = .ok (.iconst 0, 1) := by decide +kernel
theorem dL_law_644 : decode cL_law 644 = .ok (.ireturn, 1) := by decide +kernel
theorem dL_law_645 : decode cL_law 645 = .ok (.aload_n 1, 1) := by decide +kernel
theorem dL_law_646 : decode cL_law 646 = .ok (.aload_n 0, 1) := by decide +kernel
theorem dL_law_647 : decode cL_law 647 = .ok (.iload_n 3, 1) := by decide +kernel
theorem dL_law_648 : decode cL_law 648 = .ok (.iconst 1, 1) := by decide +kernel
theorem dL_law_649 : decode cL_law 649 = .ok (.iadd, 1) := by decide +kernel
theorem dL_law_650 : decode cL_law 650 = .ok (.iaload, 1) := by decide +kernel
theorem dL_law_651 : decode cL_law 651 = .ok (.invokevirtual 101, 3) := by decide +kernel
theorem dL_law_654 : decode cL_law 654 = .ok (.aload_n 2, 1) := by decide +kernel
theorem dL_law_655 : decode cL_law 655 = .ok (.aload_n 0, 1) := by decide +kernel
theorem dL_law_656 : decode cL_law 656 = .ok (.iload_n 3, 1) := by decide +kernel
theorem dL_law_657 : decode cL_law 657 = .ok (.iconst 1, 1) := by decide +kernel
theorem dL_law_658 : decode cL_law 658 = .ok (.iadd, 1) := by decide +kernel
theorem dL_law_659 : decode cL_law 659 = .ok (.iaload, 1) := by decide +kernel
theorem dL_law_660 : decode cL_law 660 = .ok (.invokevirtual 104, 3) := by decide +kernel
theorem dL_law_663 : decode cL_law 663 = .ok (.if_icmp .eq 87, 3) := by decide +kernel
theorem dL_law_666 : decode cL_law 666 = .ok (.iconst 0, 1) := by decide +kernel
theorem dL_law_667 : decode cL_law 667 = .ok (.ireturn, 1) := by decide +kernel
theorem dL_law_668 : decode cL_law 668 = .ok (.aload_n 1, 1) := by decide +kernel
theorem dL_law_669 : decode cL_law 669 = .ok (.aload_n 0, 1) := by decide +kernel
theorem dL_law_670 : decode cL_law 670 = .ok (.iload_n 3, 1) := by decide +kernel
theorem dL_law_671 : decode cL_law 671 = .ok (.iconst 1, 1) := by decide +kernel
theorem dL_law_672 : decode cL_law 672 = .ok (.iadd, 1) := by decide +kernel
theorem dL_law_673 : decode cL_law 673 = .ok (.iaload, 1) := by decide +kernel
theorem dL_law_674 : decode cL_law 674 = .ok (.aload_n 0, 1) := by decide +kernel
theorem dL_law_675 : decode cL_law 675 = .ok (.iload_n 3, 1) := by decide +kernel
theorem dL_law_676 : decode cL_law 676 = .ok (.iconst 2, 1) := by decide +kernel
theorem dL_law_677 : decode cL_law 677 = .ok (.iadd, 1) := by decide +kernel
theorem dL_law_678 : decode cL_law 678 = .ok (.iaload, 1) := by decide +kernel
theorem dL_law_679 : decode cL_law 679 = .ok (.invokevirtual 105, 3) := by decide +kernel
theorem dL_law_682 : decode cL_law 682 = .ok (.aload_n 2, 1) := by decide +kernel
theorem dL_law_683 : decode cL_law 683 = .ok (.aload_n 0, 1) := by decide +kernel
theorem dL_law_684 : decode cL_law 684 = .ok (.iload_n 3, 1) := by decide +kernel
theorem dL_law_685 : decode cL_law 685 = .ok (.iconst 1, 1) := by decide +kernel
theorem dL_law_686 : decode cL_law 686 = .ok (.iadd, 1) := by decide +kernel
theorem dL_law_687 : decode cL_law 687 = .ok (.iaload, 1) := by decide +kernel
theorem dL_law_688 : decode cL_law 688 = .ok (.aload_n 0, 1) := by decide +kernel
theorem dL_law_689 : decode cL_law 689 = .ok (.iload_n 3, 1) := by decide +kernel
theorem dL_law_690 : decode cL_law 690 = .ok (.iconst 2, 1) := by decide +kernel
theorem dL_law_691 : decode cL_law 691 = .ok (.iadd, 1) := by decide +kernel
theorem dL_law_692 : decode cL_law 692 = .ok (.iaload, 1) := by decide +kernel
theorem dL_law_693 : decode cL_law 693 = .ok (.invokevirtual 108, 3) := by decide +kernel
theorem dL_law_696 : decode cL_law 696 = .ok (.if_icmp .eq 54, 3) := by decide +kernel
theorem dL_law_699 : decode cL_law 699 = .ok (.iconst 0, 1) := by decide +kernel
theorem dL_law_700 : decode cL_law 700 = .ok (.ireturn, 1) := by decide +kernel
theorem dL_law_701 : decode cL_law 701 = .ok (.aload_n 1, 1) := by decide +kernel
theorem dL_law_702 : decode cL_law 702 = .ok (.invokevirtual 109, 3) := by decide +kernel
theorem dL_law_705 : decode cL_law 705 = .ok (.aload_n 2, 1) := by decide +kernel
theorem dL_law_706 : decode cL_law 706 = .ok (.invokevirtual 112, 3) := by decide +kernel
theorem dL_law_709 : decode cL_law 709 = .ok (.if_icmp .eq 41, 3) := by decide +kernel
theorem dL_law_712 : decode cL_law 712 = .ok (.iconst 0, 1) := by decide +kernel
theorem dL_law_713 : decode cL_law 713 = .ok (.ireturn, 1) := by decide +kernel
theorem dL_law_714 : decode cL_law 714 = .ok (.aload_n 1, 1) := by decide +kernel
theorem dL_law_715 : decode cL_law 715 = .ok (.invokevirtual 113, 3) := by decide +kernel
theorem dL_law_718 : decode cL_law 718 = .ok (.aload_n 2, 1) := by decide +kernel
theorem dL_law_719 : decode cL_law 719 = .ok (.invokevirtual 116, 3) := by decide +kernel
theorem dL_law_722 : decode cL_law 722 = .ok (.if_icmp .eq 28, 3) := by decide +kernel
theorem dL_law_725 : decode cL_law 725 = .ok (.iconst 0, 1) := by decide +kernel
theorem dL_law_726 : decode cL_law 726 = .ok (.ireturn, 1) := by decide +kernel
theorem dL_law_727 : decode cL_law 727 = .ok (.aload_n 1, 1) := by decide +kernel
theorem dL_law_728 : decode cL_law 728 = .ok (.aload_n 0, 1) := by decide +kernel
theorem dL_law_729 : decode cL_law 729 = .ok (.iload_n 3, 1) := by decide +kernel
theorem dL_law_730 : decode cL_law 730 = .ok (.iconst 1, 1) := by decide +kernel
theorem dL_law_731 : decode cL_law 731 = .ok (.iadd, 1) := by decide +kernel
theorem dL_law_732 : decode cL_law 732 = .ok (.iaload, 1) := by decide +kernel
theorem dL_law_733 : decode cL_law 733 = .ok (.invokevirtual 117, 3) := by decide +kernel
theorem dL_law_736 : decode cL_law 736 = .ok (.aload_n 2, 1) := by decide +kernel
theorem dL_law_737 : decode cL_law 737 = .ok (.aload_n 0, 1) := by decide +kernel
theorem dL_law_738 : decode cL_law 738 = .ok (.iload_n 3, 1) := by decide +kernel
theorem dL_law_739 : decode cL_law 739 = .ok (.iconst 1, 1) := by decide +kernel
theorem dL_law_740 : decode cL_law 740 = .ok (.iadd, 1) := by decide +kernel
theorem dL_law_741 : decode cL_law 741 = .ok (.iaload, 1) := by decide +kernel
theorem dL_law_742 : decode cL_law 742 = .ok (.invokevirtual 120, 3) := by decide +kernel
theorem dL_law_745 : decode cL_law 745 = .ok (.if_icmp .eq 5, 3) := by decide +kernel
theorem dL_law_748 : decode cL_law 748 = .ok (.iconst 0, 1) := by decide +kernel
theorem dL_law_749 : decode cL_law 749 = .ok (.ireturn, 1) := by decide +kernel
theorem dL_law_750 : decode cL_law 750 = .ok (.iinc 3 4, 3) := by decide +kernel
theorem dL_law_753 : decode cL_law 753 = .ok (.goto (-735), 3) := by decide +kernel
theorem dL_law_756 : decode cL_law 756 = .ok (.iconst 1, 1) := by decide +kernel
theorem dL_law_757 : decode cL_law 757 = .ok (.ireturn, 1) := by decide +kernel
end
section
/-! small words of both sides -/
def lnum (x : Int) : Int := if 97 ≤ x ∧ x ≤ 122 then x - 97 else x - 65
/-- the letter at a place of the text; 0 where none stands -/
def txat (S : St) (x : Int) : Int := if 0 ≤ x ∧ x < S.1 50 0 then S.1 0 x else 0
theorem ch_of {v : Int} (h : 32 ≤ v ∧ v ≤ 126) : narrow .char (.int (iI v)) = .int (iI v) := (iI_char (by omega) (by omega)).1
theorem txat_r {S : St} (ht : 0 ≤ S.1 50 0 ∧ S.1 50 0 ≤ 200) (hc : ∀ i : Int, 0 ≤ i → i < S.1 50 0 → 32 ≤ S.1 0 i ∧ S.1 0 i ≤ 126) (x : Int) : 0 ≤ txat S x ∧ txat S x ≤ 126 ∧ (S.1 50 0 ≤ x → txat S x = 0) := by
  unfold txat
  by_cases h : 0 ≤ x ∧ x < S.1 50 0
  · rw [if_pos h]
    have := hc x h.1 h.2
    omega
  · rw [if_neg h]
    omega
/-- how many signs stand from a place on, so many at most -/
def sgc (f : Int → Int) (p : Int) : Nat → Int
  | 0 => 0
  | n + 1 => if ((97 ≤ f p ∧ f p ≤ 122) ∨ (65 ≤ f p ∧ f p ≤ 90) ∨ f p = 95) then 1 + sgc f (p + 1) n else 0
theorem sgc_yes {f : Int → Int} {p : Int} {n : Nat} (h : (97 ≤ f p ∧ f p ≤ 122) ∨ (65 ≤ f p ∧ f p ≤ 90) ∨ f p = 95) (hn : 0 < n) : sgc f p n = 1 + sgc f (p + 1) (n - 1) := by
  cases n with
  | zero => exact absurd hn (Nat.lt_irrefl 0)
  | succ n => rw [sgc, if_pos h]; rfl
theorem sgc_no {f : Int → Int} {p : Int} (n : Nat) (h : ¬ ((97 ≤ f p ∧ f p ≤ 122) ∨ (65 ≤ f p ∧ f p ≤ 90) ∨ f p = 95)) : sgc f p n = 0 := by
  cases n with
  | zero => rfl
  | succ n => rw [sgc, if_neg h]
theorem sgc_r (f : Int → Int) : ∀ (n : Nat) (p : Int), 0 ≤ sgc f p n ∧ sgc f p n ≤ n
  | 0, p => by rw [sgc]; omega
  | n + 1, p => by
    have := sgc_r f n (p + 1)
    rw [sgc]
    split <;> omega
/-- the place behind the name that is told there; -1 if none is -/
def bNam (f : Int → Int) (x : Int) : Int := if (48 ≤ f (x + 1) ∧ f (x + 1) ≤ 48 + 3) ∧ f (x + 2) = 44 ∧ 1 ≤ sgc f (x + 3) 13 ∧ sgc f (x + 3) 13 ≤ 12 ∧ f ((x + 3) + sgc f (x + 3) 13) = 59 then (x + 4) + sgc f (x + 3) 13 else -1
def bWor (f : Int → Int) (x : Int) : Int := if (48 ≤ f (x + 1) ∧ f (x + 1) ≤ 48 + 9) ∧ f (x + 2) = 44 ∧ (48 ≤ f (x + 3) ∧ f (x + 3) ≤ 48 + 9) ∧ f (x + 4) = 44 ∧ (48 ≤ f (x + 5) ∧ f (x + 5) ≤ 48 + 9) ∧ f (x + 6) = 59 then x + 7 else -1
def bItm (f : Int → Int) (x : Int) : Int := if f x = 115 then bNam f x else if f x = 119 then bWor f x else -1
theorem bItm_r {S : St} (ht : 0 ≤ S.1 50 0 ∧ S.1 50 0 ≤ 200) (x : Int) : bItm (txat S) x = -1 ∨ (x + 4 < bItm (txat S) x ∧ bItm (txat S) x ≤ S.1 50 0) := by
  have key : ∀ y : Int, txat S y = 59 → y < S.1 50 0 := fun y h => by
    unfold txat at h
    by_cases q : 0 ≤ y ∧ y < S.1 50 0
    · exact q.2
    · rw [if_neg q] at h; omega
  have h1 := sgc_r (txat S) 13 (x + 3)
  unfold bItm
  split
  · unfold bNam
    split
    · rename_i h
      have := key _ h.2.2.2.2
      omega
    · exact Or.inl rfl
  · split
    · unfold bWor
      split
      · rename_i h
        have := key _ h.2.2.2.2.2
        omega
      · exact Or.inl rfl
    · exact Or.inl rfl
theorem bNam_r {S : St} (ht : 0 ≤ S.1 50 0 ∧ S.1 50 0 ≤ 200) (x : Int) : bNam (txat S) x = -1 ∨ (x + 4 < bNam (txat S) x ∧ bNam (txat S) x ≤ S.1 50 0) := by
  have key : ∀ y : Int, txat S y = 59 → y < S.1 50 0 := fun y h => by
    unfold txat at h
    by_cases q : 0 ≤ y ∧ y < S.1 50 0
    · exact q.2
    · rw [if_neg q] at h; omega
  have h1 := sgc_r (txat S) 13 (x + 3)
  unfold bNam
  split
  · rename_i h
    have := key _ h.2.2.2.2
    omega
  · exact Or.inl rfl
/-- the first item that is not so: where it begins; -4 if all are -/
def flt (f : Int → Int) (len : Int) : Nat → Int → Int → Int
  | 0, _, _ => -4
  | k + 1, a, n => if a < len then (if bItm f a = -1 ∨ 8 < (if f a = 115 then n + 1 else n) then a else flt f len k (bItm f a) (if f a = 115 then n + 1 else n)) else -4
theorem flt_end {f : Int → Int} {len : Int} {k : Nat} {a n : Int} (h : k = 0 ∨ len ≤ a) : flt f len k a n = -4 := by
  cases k with
  | zero => rfl
  | succ k => rw [flt, if_neg (by omega)]
theorem flt_bad {f : Int → Int} {len : Int} {k : Nat} {a n : Int} (hk : 0 < k) (ha : a < len) (h : bItm f a = -1 ∨ (f a = 115 ∧ 8 < n + 1) ∨ (f a ≠ 115 ∧ 8 < n)) : flt f len k a n = a := by
  cases k with
  | zero => exact absurd hk (Nat.lt_irrefl 0)
  | succ k =>
    rw [flt, if_pos ha, if_pos]
    split <;> omega
theorem flt_go {f : Int → Int} {len : Int} {i : Int} {a n n2 : Int} (hi : 0 ≤ i ∧ i < 200 ∧ a < len) (h1 : bItm f a ≠ -1) (h2 : n2 ≤ 8 ∧ ((f a = 115 ∧ n2 = n + 1) ∨ (f a ≠ 115 ∧ n2 = n))) : flt f len (200 - i).toNat a n = flt f len (200 - (i + 1)).toNat (bItm f a) n2 := by
  rw [show (200 - i).toNat = (200 - (i + 1)).toNat + 1 by omega, flt, if_pos hi.2.2]
  have e : (if f a = 115 then n + 1 else n) = n2 := by split <;> omega
  rw [e, if_neg (by omega)]
theorem flt_r {f : Int → Int} {len : Int} (ht : 0 ≤ len ∧ len ≤ 200) : ∀ (k : Nat) (a n : Int), 0 ≤ a → True := fun _ _ _ _ => trivial
/-- whether an s stands ahead of a place -/
def hasS (f : Int → Int) : Nat → Bool
  | 0 => false
  | n + 1 => hasS f n || decide (f n = 115)
theorem hasS_no {f : Int → Int} {k : Int} (h0 : 0 ≤ k) (h : hasS f k.toNat = false) (hk : f k ≠ 115) : hasS f (k + 1).toNat = false := by
  rw [show (k + 1).toNat = k.toNat + 1 by omega, hasS, h, show ((k.toNat : Nat) : Int) = k by omega]
  simpa using hk
theorem hasS_mono {f : Int → Int} : ∀ (n m : Nat), n ≤ m → hasS f n = true → hasS f m = true
  | n, 0, h, q => by rw [show n = 0 by omega] at q; exact q
  | n, m + 1, h, q => by
    rcases Nat.lt_or_ge m n with z | z
    · rw [show n = m + 1 by omega] at q; exact q
    · rw [hasS, hasS_mono n m z q]; rfl
theorem hasS_of {f : Int → Int} {k len : Int} (h : 0 ≤ k ∧ k < len) (hk : f k = 115) : hasS f len.toNat = true := by
  refine hasS_mono (k.toNat + 1) len.toNat (by omega) ?_
  rw [hasS, show ((k.toNat : Nat) : Int) = k by omega, hk]
  simp

theorem ok_X9_isSmall : yX9_isSmall.cls ≠ "java/lang/invoke/MethodHandle" ∧ yX9_isSmall.cls ≠ "java/lang/invoke/VarHandle" ∧ (parseMethodDescriptor yX9_isSmall.desc).map (fun d => d.parameters.length) = some 1 := ⟨by decide +kernel, by decide +kernel, by decide +kernel⟩
abbrev po_X9_isSmall (S : St)  (x : Int) : Int → St → Prop := fun r S1 => r = bI (97 ≤ x ∧ x ≤ 122) ∧ S1 = S
abbrev rm_X9_isSmall : Room := ({ frames := 0, cells := 0, slots := 0, locals := 0 } : Room)
set_option maxRecDepth 100000 in
set_option maxHeartbeats 4000000 in
theorem k_X9_isSmall (l : Launch) (G : Ge) (S : St)  (x : Int) (hx : -2147483648 ≤ x ∧ x < 2147483648) : Ki (KC G) l yX9_isSmall cX9_isSmall 1 .boolean rm_X9_isSmall [.int (iI x)] S (po_X9_isSmall S x) := by
  refine K_start (own := "NameSeeker") (by decide +kernel) rfl (Nat.le_of_ble_eq_true rfl) ?_
  intro p e s m args below meth c X hr hlk I ls hl
  have hl : lv_has ls 1 [(0, .int (iI x))] := hl
  refine lv_iload_n X.1 X.2.1 dX9_isSmall_0 rfl (lv_at hl 0 rfl) ?_
  refine ri_push X (v := 97) (by decide) dX9_isSmall_1 ?_
  refine rj_lt (tgt := 16) X (by omega) (by omega) dX9_isSmall_3 (by decide) (fun c1 => ?_) (fun c1 => ?_)
  · skip
    refine ri_const X (v := 0) dX9_isSmall_16 ?_
    exact rt_i X hr hlk I (by rfl) (by first | (exfalso; omega) | exact (⟨(bI_f (by omega)).symm, rfl⟩)) dX9_isSmall_17
  · skip
    refine lv_iload_n X.1 X.2.1 dX9_isSmall_6 rfl (lv_at hl 0 rfl) ?_
    refine ri_push X (v := 122) (by decide) dX9_isSmall_7 ?_
    refine rj_gt (tgt := 16) X (by omega) (by omega) dX9_isSmall_9 (by decide) (fun c2 => ?_) (fun c2 => ?_)
    · skip
      refine ri_const X (v := 0) dX9_isSmall_16 ?_
      exact rt_i X hr hlk I (by rfl) (by first | (exfalso; omega) | exact (⟨(bI_f (by omega)).symm, rfl⟩)) dX9_isSmall_17
    · skip
      refine ri_const X (v := 1) dX9_isSmall_12 ?_
      refine lv_goto (tgt := 17) X.1 X.2.1 dX9_isSmall_13 (by decide) ?_
      exact rt_i X hr hlk I (by rfl) (by first | (exfalso; omega) | exact (⟨(bI_t (by omega)).symm, rfl⟩)) dX9_isSmall_17

theorem ok_X9_isGreat : yX9_isGreat.cls ≠ "java/lang/invoke/MethodHandle" ∧ yX9_isGreat.cls ≠ "java/lang/invoke/VarHandle" ∧ (parseMethodDescriptor yX9_isGreat.desc).map (fun d => d.parameters.length) = some 1 := ⟨by decide +kernel, by decide +kernel, by decide +kernel⟩
abbrev po_X9_isGreat (S : St)  (x : Int) : Int → St → Prop := fun r S1 => r = bI (65 ≤ x ∧ x ≤ 90) ∧ S1 = S
abbrev rm_X9_isGreat : Room := ({ frames := 0, cells := 0, slots := 0, locals := 0 } : Room)
set_option maxRecDepth 100000 in
set_option maxHeartbeats 4000000 in
theorem k_X9_isGreat (l : Launch) (G : Ge) (S : St)  (x : Int) (hx : -2147483648 ≤ x ∧ x < 2147483648) : Ki (KC G) l yX9_isGreat cX9_isGreat 1 .boolean rm_X9_isGreat [.int (iI x)] S (po_X9_isGreat S x) := by
  refine K_start (own := "NameSeeker") (by decide +kernel) rfl (Nat.le_of_ble_eq_true rfl) ?_
  intro p e s m args below meth c X hr hlk I ls hl
  have hl : lv_has ls 1 [(0, .int (iI x))] := hl
  refine lv_iload_n X.1 X.2.1 dX9_isGreat_0 rfl (lv_at hl 0 rfl) ?_
  refine ri_push X (v := 65) (by decide) dX9_isGreat_1 ?_
  refine rj_lt (tgt := 16) X (by omega) (by omega) dX9_isGreat_3 (by decide) (fun c1 => ?_) (fun c1 => ?_)
  · skip
    refine ri_const X (v := 0) dX9_isGreat_16 ?_
    exact rt_i X hr hlk I (by rfl) (by first | (exfalso; omega) | exact (⟨(bI_f (by omega)).symm, rfl⟩)) dX9_isGreat_17
  · skip
    refine lv_iload_n X.1 X.2.1 dX9_isGreat_6 rfl (lv_at hl 0 rfl) ?_
    refine ri_push X (v := 90) (by decide) dX9_isGreat_7 ?_
    refine rj_gt (tgt := 16) X (by omega) (by omega) dX9_isGreat_9 (by decide) (fun c2 => ?_) (fun c2 => ?_)
    · skip
      refine ri_const X (v := 0) dX9_isGreat_16 ?_
      exact rt_i X hr hlk I (by rfl) (by first | (exfalso; omega) | exact (⟨(bI_f (by omega)).symm, rfl⟩)) dX9_isGreat_17
    · skip
      refine ri_const X (v := 1) dX9_isGreat_12 ?_
      refine lv_goto (tgt := 17) X.1 X.2.1 dX9_isGreat_13 (by decide) ?_
      exact rt_i X hr hlk I (by rfl) (by first | (exfalso; omega) | exact (⟨(bI_t (by omega)).symm, rfl⟩)) dX9_isGreat_17

theorem ok_X9_isLetter : yX9_isLetter.cls ≠ "java/lang/invoke/MethodHandle" ∧ yX9_isLetter.cls ≠ "java/lang/invoke/VarHandle" ∧ (parseMethodDescriptor yX9_isLetter.desc).map (fun d => d.parameters.length) = some 1 := ⟨by decide +kernel, by decide +kernel, by decide +kernel⟩
abbrev po_X9_isLetter (S : St)  (x : Int) : Int → St → Prop := fun r S1 => r = bI ((97 ≤ x ∧ x ≤ 122) ∨ (65 ≤ x ∧ x ≤ 90)) ∧ S1 = S
abbrev rm_X9_isLetter : Room := ({ frames := 1, cells := 0, slots := 0, locals := 20 } : Room)
set_option maxRecDepth 100000 in
set_option maxHeartbeats 4000000 in
theorem k_X9_isLetter (l : Launch) (G : Ge) (S : St)  (x : Int) (hx : -2147483648 ≤ x ∧ x < 2147483648) : Ki (KC G) l yX9_isLetter cX9_isLetter 1 .boolean rm_X9_isLetter [.int (iI x)] S (po_X9_isLetter S x) := by
  refine K_start (own := "NameSeeker") (by decide +kernel) rfl (Nat.le_of_ble_eq_true rfl) ?_
  intro p e s m args below meth c X hr hlk I ls hl
  have hl : lv_has ls 1 [(0, .int (iI x))] := hl
  refine lv_iload_n X.1 X.2.1 dX9_isLetter_0 rfl (lv_at hl 0 rfl) ?_
  refine cl_i I (runS (As := [.int (iI x)]) (rest := []) X (k_X9_isSmall l G S  x (by omega)) (gdC tb_357 gdB) tb_355 tb_356 tb_34 ⟨ok_X9_isSmall, ⟨Nat.le_of_ble_eq_true rfl, Nat.le_of_ble_eq_true rfl⟩, rfl, rfl⟩ (PreS.of I) rfl hl.1 rfl (Nat.le_of_ble_eq_true rfl) dX9_isLetter_1 ⟨Nat.zero_le _, Nat.zero_le _⟩) (fun r1 S2 H locs q3 I => ?_)
  obtain ⟨e1_, e2_⟩ := q3
  rw [e2_] at I
  rw [e1_]
  clear e1_ e2_
  rcases Decidable.em ((97 ≤ (x) ∧ (x) ≤ 122)) with b4 | b4
  · rw [bI_t b4]
    refine rz_ne (tgt := 14) X (by omega) dX9_isLetter_4 (by decide) (fun _ => ?_) (fun c5 => absurd c5 (by decide))
    refine ri_const X (v := 1) dX9_isLetter_14 ?_
    refine lv_goto (tgt := 19) X.1 X.2.1 dX9_isLetter_15 (by decide) ?_
    exact rt_i X hr hlk I (by rfl) (by first | (exfalso; omega) | exact (⟨(bI_t (by omega)).symm, rfl⟩)) dX9_isLetter_19
  · rw [bI_f b4]
    refine rz_ne (tgt := 14) X (by omega) dX9_isLetter_4 (by decide) (fun c6 => absurd c6 (by decide)) (fun _ => ?_)
    refine lv_iload_n X.1 X.2.1 dX9_isLetter_7 rfl (lv_at hl 0 rfl) ?_
    refine cl_i I (runS (As := [.int (iI x)]) (rest := []) X (k_X9_isGreat l G S  x (by omega)) (gdC tb_360 gdB) tb_358 tb_359 tb_34 ⟨ok_X9_isGreat, ⟨Nat.le_of_ble_eq_true rfl, Nat.le_of_ble_eq_true rfl⟩, rfl, rfl⟩ (PreS.of I) rfl hl.1 rfl (Nat.le_of_ble_eq_true rfl) dX9_isLetter_8 ⟨Nat.zero_le _, Nat.zero_le _⟩) (fun r7 S8 H locs q9 I => ?_)
    obtain ⟨e1_, e2_⟩ := q9
    rw [e2_] at I
    rw [e1_]
    clear e1_ e2_
    rcases Decidable.em ((65 ≤ (x) ∧ (x) ≤ 90)) with b10 | b10
    · rw [bI_t b10]
      refine rz_eq (tgt := 18) X (by omega) dX9_isLetter_11 (by decide) (fun c11 => absurd c11 (by decide)) (fun _ => ?_)
      refine ri_const X (v := 1) dX9_isLetter_14 ?_
      refine lv_goto (tgt := 19) X.1 X.2.1 dX9_isLetter_15 (by decide) ?_
      exact rt_i X hr hlk I (by rfl) (by first | (exfalso; omega) | exact (⟨(bI_t (by omega)).symm, rfl⟩)) dX9_isLetter_19
    · rw [bI_f b10]
      refine rz_eq (tgt := 18) X (by omega) dX9_isLetter_11 (by decide) (fun _ => ?_) (fun c12 => absurd c12 (fun q => q (by decide)))
      refine ri_const X (v := 0) dX9_isLetter_18 ?_
      exact rt_i X hr hlk I (by rfl) (by first | (exfalso; omega) | exact (⟨(bI_f (by omega)).symm, rfl⟩)) dX9_isLetter_19

theorem ok_X9_isSign : yX9_isSign.cls ≠ "java/lang/invoke/MethodHandle" ∧ yX9_isSign.cls ≠ "java/lang/invoke/VarHandle" ∧ (parseMethodDescriptor yX9_isSign.desc).map (fun d => d.parameters.length) = some 1 := ⟨by decide +kernel, by decide +kernel, by decide +kernel⟩
abbrev po_X9_isSign (S : St)  (x : Int) : Int → St → Prop := fun r S1 => r = bI ((97 ≤ x ∧ x ≤ 122) ∨ (65 ≤ x ∧ x ≤ 90) ∨ x = 95) ∧ S1 = S
abbrev rm_X9_isSign : Room := ({ frames := 2, cells := 0, slots := 0, locals := 40 } : Room)
set_option maxRecDepth 100000 in
set_option maxHeartbeats 4000000 in
theorem k_X9_isSign (l : Launch) (G : Ge) (S : St)  (x : Int) (hx : -2147483648 ≤ x ∧ x < 2147483648) : Ki (KC G) l yX9_isSign cX9_isSign 1 .boolean rm_X9_isSign [.int (iI x)] S (po_X9_isSign S x) := by
  refine K_start (own := "NameSeeker") (by decide +kernel) rfl (Nat.le_of_ble_eq_true rfl) ?_
  intro p e s m args below meth c X hr hlk I ls hl
  have hl : lv_has ls 1 [(0, .int (iI x))] := hl
  refine lv_iload_n X.1 X.2.1 dX9_isSign_0 rfl (lv_at hl 0 rfl) ?_
  refine cl_i I (runS (As := [.int (iI x)]) (rest := []) X (k_X9_isLetter l G S  x (by omega)) (gdC tb_354 gdB) tb_352 tb_353 tb_34 ⟨ok_X9_isLetter, ⟨Nat.le_of_ble_eq_true rfl, Nat.le_of_ble_eq_true rfl⟩, rfl, rfl⟩ (PreS.of I) rfl hl.1 rfl (Nat.le_of_ble_eq_true rfl) dX9_isSign_1 ⟨Nat.zero_le _, Nat.zero_le _⟩) (fun r1 S2 H locs q3 I => ?_)
  obtain ⟨e1_, e2_⟩ := q3
  rw [e2_] at I
  rw [e1_]
  clear e1_ e2_
  rcases Decidable.em (((97 ≤ (x) ∧ (x) ≤ 122) ∨ (65 ≤ (x) ∧ (x) ≤ 90))) with b4 | b4
  · rw [bI_t b4]
    refine rz_ne (tgt := 13) X (by omega) dX9_isSign_4 (by decide) (fun _ => ?_) (fun c5 => absurd c5 (by decide))
    refine ri_const X (v := 1) dX9_isSign_13 ?_
    refine lv_goto (tgt := 18) X.1 X.2.1 dX9_isSign_14 (by decide) ?_
    exact rt_i X hr hlk I (by rfl) (by first | (exfalso; omega) | exact (⟨(bI_t (by omega)).symm, rfl⟩)) dX9_isSign_18
  · rw [bI_f b4]
    refine rz_ne (tgt := 13) X (by omega) dX9_isSign_4 (by decide) (fun c6 => absurd c6 (by decide)) (fun _ => ?_)
    refine lv_iload_n X.1 X.2.1 dX9_isSign_7 rfl (lv_at hl 0 rfl) ?_
    refine ri_push X (v := 95) (by decide) dX9_isSign_8 ?_
    refine rj_ne (tgt := 17) X (by omega) (by omega) dX9_isSign_10 (by decide) (fun c7 => ?_) (fun c7 => ?_)
    · skip
      refine ri_const X (v := 0) dX9_isSign_17 ?_
      exact rt_i X hr hlk I (by rfl) (by first | (exfalso; omega) | exact (⟨(bI_f (by omega)).symm, rfl⟩)) dX9_isSign_18
    · skip
      refine ri_const X (v := 1) dX9_isSign_13 ?_
      refine lv_goto (tgt := 18) X.1 X.2.1 dX9_isSign_14 (by decide) ?_
      exact rt_i X hr hlk I (by rfl) (by first | (exfalso; omega) | exact (⟨(bI_t (by omega)).symm, rfl⟩)) dX9_isSign_18

theorem ok_X9_letterNumber : yX9_letterNumber.cls ≠ "java/lang/invoke/MethodHandle" ∧ yX9_letterNumber.cls ≠ "java/lang/invoke/VarHandle" ∧ (parseMethodDescriptor yX9_letterNumber.desc).map (fun d => d.parameters.length) = some 1 := ⟨by decide +kernel, by decide +kernel, by decide +kernel⟩
abbrev po_X9_letterNumber (S : St)  (x : Int) : Int → St → Prop := fun r S1 => r = lnum x ∧ S1 = S
abbrev rm_X9_letterNumber : Room := ({ frames := 1, cells := 0, slots := 0, locals := 20 } : Room)
set_option maxRecDepth 100000 in
set_option maxHeartbeats 4000000 in
theorem k_X9_letterNumber (l : Launch) (G : Ge) (S : St)  (x : Int) (hx : -2147483648 ≤ x ∧ x < 2147483648) : Ki (KC G) l yX9_letterNumber cX9_letterNumber 1 .int rm_X9_letterNumber [.int (iI x)] S (po_X9_letterNumber S x) := by
  refine K_start (own := "NameSeeker") (by decide +kernel) rfl (Nat.le_of_ble_eq_true rfl) ?_
  intro p e s m args below meth c X hr hlk I ls hl
  have hl : lv_has ls 1 [(0, .int (iI x))] := hl
  refine lv_iload_n X.1 X.2.1 dX9_letterNumber_0 rfl (lv_at hl 0 rfl) ?_
  refine cl_i I (runS (As := [.int (iI x)]) (rest := []) X (k_X9_isSmall l G S  x (by omega)) (gdC tb_357 gdB) tb_355 tb_356 tb_34 ⟨ok_X9_isSmall, ⟨Nat.le_of_ble_eq_true rfl, Nat.le_of_ble_eq_true rfl⟩, rfl, rfl⟩ (PreS.of I) rfl hl.1 rfl (Nat.le_of_ble_eq_true rfl) dX9_letterNumber_1 ⟨Nat.zero_le _, Nat.zero_le _⟩) (fun r1 S2 H locs q3 I => ?_)
  obtain ⟨e1_, e2_⟩ := q3
  rw [e2_] at I
  rw [e1_]
  clear e1_ e2_
  rcases Decidable.em ((97 ≤ (x) ∧ (x) ≤ 122)) with b4 | b4
  · rw [bI_t b4]
    refine rz_eq (tgt := 14) X (by omega) dX9_letterNumber_4 (by decide) (fun c5 => absurd c5 (by decide)) (fun _ => ?_)
    refine lv_iload_n X.1 X.2.1 dX9_letterNumber_7 rfl (lv_at hl 0 rfl) ?_
    refine ri_push X (v := 97) (by decide) dX9_letterNumber_8 ?_
    refine ri_sub X (v := (x - 97)) rfl dX9_letterNumber_10 ?_
    refine lv_goto (tgt := 18) X.1 X.2.1 dX9_letterNumber_11 (by decide) ?_
    exact rt_i X hr hlk I rfl (by first | (exfalso; omega) | exact (⟨by unfold lnum; first | rw [if_pos (by omega)] | rw [if_neg (by omega)], rfl⟩)) dX9_letterNumber_18
  · rw [bI_f b4]
    refine rz_eq (tgt := 14) X (by omega) dX9_letterNumber_4 (by decide) (fun _ => ?_) (fun c6 => absurd c6 (fun q => q (by decide)))
    refine lv_iload_n X.1 X.2.1 dX9_letterNumber_14 rfl (lv_at hl 0 rfl) ?_
    refine ri_push X (v := 65) (by decide) dX9_letterNumber_15 ?_
    refine ri_sub X (v := (x - 65)) rfl dX9_letterNumber_17 ?_
    exact rt_i X hr hlk I rfl (by first | (exfalso; omega) | exact (⟨by unfold lnum; first | rw [if_pos (by omega)] | rw [if_neg (by omega)], rfl⟩)) dX9_letterNumber_18

theorem ok_X7_at : yX7_at.cls ≠ "java/lang/invoke/MethodHandle" ∧ yX7_at.cls ≠ "java/lang/invoke/VarHandle" ∧ (parseMethodDescriptor yX7_at.desc).map (fun d => d.parameters.length) = some 1 := ⟨by decide +kernel, by decide +kernel, by decide +kernel⟩
abbrev po_X7_at (S : St)  (x : Int) : Int → St → Prop := fun r S1 => r = txat S x ∧ S1 = S
abbrev rm_X7_at : Room := ({ frames := 0, cells := 0, slots := 0, locals := 0 } : Room)
set_option maxRecDepth 100000 in
set_option maxHeartbeats 4000000 in
theorem k_X7_at (l : Launch) (G : Ge) (S : St)  (x : Int) (hx : -2147483648 ≤ x ∧ x < 2147483648) (ht : 0 ≤ S.1 50 0 ∧ S.1 50 0 ≤ 200) (hc : ∀ i : Int, 0 ≤ i → i < S.1 50 0 → 32 ≤ S.1 0 i ∧ S.1 0 i ≤ 126) : Ki (KC G) l yX7_at cX7_at 2 .char rm_X7_at [.ref (G.2.2 1), .int (iI x)] S (po_X7_at S x) := by
  refine K_start (own := "NameSeeker$Text") (by decide +kernel) rfl (Nat.le_of_ble_eq_true rfl) ?_
  intro p e s m args below meth c X hr hlk I ls hl
  have hl : lv_has ls 2 [(0, .ref (G.2.2 1)), (1, .int (iI x))] := hl
  refine lv_iload_n X.1 X.2.1 dX7_at_0 rfl (lv_at hl 1 rfl) ?_
  refine rz_lt (tgt := 21) X (by omega) dX7_at_1 (by decide) (fun c1 => ?_) (fun c1 => ?_)
  · skip
    refine ri_const X (v := 0) dX7_at_21 ?_
    exact rt_i X hr hlk I (by rfl) (by first | (exfalso; omega) | exact (⟨by unfold txat; first | rw [if_pos (by omega)] | rw [if_neg (by omega)], rfl⟩)) dX7_at_22
  · skip
    refine lv_iload_n X.1 X.2.1 dX7_at_4 rfl (lv_at hl 1 rfl) ?_
    refine lv_aload_n X.1 X.2.1 dX7_at_5 rfl (lv_at hl 0 rfl) ?_
    refine gC_text_size X I (v := (S.1 50 0)) rfl tb_66 dX7_at_6 ?_
    refine rj_ge (tgt := 21) X (by omega) (by omega) dX7_at_9 (by decide) (fun c2 => ?_) (fun c2 => ?_)
    · skip
      refine ri_const X (v := 0) dX7_at_21 ?_
      exact rt_i X hr hlk I (by rfl) (by first | (exfalso; omega) | exact (⟨by unfold txat; first | rw [if_pos (by omega)] | rw [if_neg (by omega)], rfl⟩)) dX7_at_22
    · skip
      refine lv_aload_n X.1 X.2.1 dX7_at_12 rfl (lv_at hl 0 rfl) ?_
      refine gC_text_letters X I tb_65 dX7_at_13 ?_
      refine lv_iload_n X.1 X.2.1 dX7_at_16 rfl (lv_at hl 1 rfl) ?_
      refine aC_text X I (v := (S.1 0 x)) rfl (by omega) dX7_at_17 ?_
      refine lv_goto (tgt := 22) X.1 X.2.1 dX7_at_18 (by decide) ?_
      exact rt_i X hr hlk I (ch_of (hc x (by omega) (by omega))) (by first | (exfalso; omega) | exact (⟨by unfold txat; first | rw [if_pos (by omega)] | rw [if_neg (by omega)], rfl⟩)) dX7_at_22

theorem ok_X7_figureAt : yX7_figureAt.cls ≠ "java/lang/invoke/MethodHandle" ∧ yX7_figureAt.cls ≠ "java/lang/invoke/VarHandle" ∧ (parseMethodDescriptor yX7_figureAt.desc).map (fun d => d.parameters.length) = some 1 := ⟨by decide +kernel, by decide +kernel, by decide +kernel⟩
abbrev po_X7_figureAt (S : St)  (x : Int) : Int → St → Prop := fun r S1 => r = txat S x - 48 ∧ S1 = S
abbrev rm_X7_figureAt : Room := ({ frames := 1, cells := 0, slots := 0, locals := 21 } : Room)
set_option maxRecDepth 100000 in
set_option maxHeartbeats 4000000 in
theorem k_X7_figureAt (l : Launch) (G : Ge) (S : St)  (x : Int) (hx : -2147483648 ≤ x ∧ x < 2147483648) (ht : 0 ≤ S.1 50 0 ∧ S.1 50 0 ≤ 200) (hc : ∀ i : Int, 0 ≤ i → i < S.1 50 0 → 32 ≤ S.1 0 i ∧ S.1 0 i ≤ 126) : Ki (KC G) l yX7_figureAt cX7_figureAt 2 .int rm_X7_figureAt [.ref (G.2.2 1), .int (iI x)] S (po_X7_figureAt S x) := by
  refine K_start (own := "NameSeeker$Text") (by decide +kernel) rfl (Nat.le_of_ble_eq_true rfl) ?_
  intro p e s m args below meth c X hr hlk I ls hl
  have hl : lv_has ls 2 [(0, .ref (G.2.2 1)), (1, .int (iI x))] := hl
  refine lv_aload_n X.1 X.2.1 dX7_figureAt_0 rfl (lv_at hl 0 rfl) ?_
  refine lv_iload_n X.1 X.2.1 dX7_figureAt_1 rfl (lv_at hl 1 rfl) ?_
  refine cl_i I (runV (As := [.int (iI x)]) (rest := []) X (k_X7_at l G S  x (by omega) ht hc) (gdC tb_339 (gdC tb_332 (gdC tb_333 (gdC tb_35 (gdC tb_334 gdB))))) ⟨ok_X7_at, ⟨Nat.le_of_ble_eq_true rfl, Nat.le_of_ble_eq_true rfl⟩, rfl, rfl⟩ (PreV.of (C := RX7) (T := TX7) (N := 2) I (atC_text) rfl) rfl hl.1 rfl (Nat.le_of_ble_eq_true rfl) dX7_figureAt_2 ⟨Nat.zero_le _, Nat.zero_le _⟩) (fun r1 S2 H locs q3 I => ?_)
  obtain ⟨e1_, e2_⟩ := q3
  rw [e2_] at I
  rw [e1_]
  clear e1_ e2_
  have t4 := txat_r ht hc x
  refine ri_push X (v := 48) (by decide) dX7_figureAt_5 ?_
  refine ri_sub X (v := ((txat S x) - 48)) rfl dX7_figureAt_7 ?_
  exact rt_i X hr hlk I rfl (by first | (exfalso; omega) | exact (⟨rfl, rfl⟩)) dX7_figureAt_8

theorem ok_X7_isFigure : yX7_isFigure.cls ≠ "java/lang/invoke/MethodHandle" ∧ yX7_isFigure.cls ≠ "java/lang/invoke/VarHandle" ∧ (parseMethodDescriptor yX7_isFigure.desc).map (fun d => d.parameters.length) = some 2 := ⟨by decide +kernel, by decide +kernel, by decide +kernel⟩
abbrev po_X7_isFigure (S : St)  (x : Int) (u : Int) : Int → St → Prop := fun r S1 => r = bI (48 ≤ txat S x ∧ txat S x ≤ 48 + u) ∧ S1 = S
abbrev rm_X7_isFigure : Room := ({ frames := 2, cells := 0, slots := 0, locals := 42 } : Room)
set_option maxRecDepth 100000 in
set_option maxHeartbeats 4000000 in
theorem k_X7_isFigure (l : Launch) (G : Ge) (S : St)  (x : Int) (u : Int) (hx : -2147483648 ≤ x ∧ x < 2147483648) (hu : 0 ≤ u ∧ u ≤ 9) (ht : 0 ≤ S.1 50 0 ∧ S.1 50 0 ≤ 200) (hc : ∀ i : Int, 0 ≤ i → i < S.1 50 0 → 32 ≤ S.1 0 i ∧ S.1 0 i ≤ 126) : Ki (KC G) l yX7_isFigure cX7_isFigure 3 .boolean rm_X7_isFigure [.ref (G.2.2 1), .int (iI x), .int (iI u)] S (po_X7_isFigure S x u) := by
  refine K_start (own := "NameSeeker$Text") (by decide +kernel) rfl (Nat.le_of_ble_eq_true rfl) ?_
  intro p e s m args below meth c X hr hlk I ls hl
  have hl : lv_has ls 3 [(0, .ref (G.2.2 1)), (1, .int (iI x)), (2, .int (iI u))] := hl
  refine lv_aload_n X.1 X.2.1 dX7_isFigure_0 rfl (lv_at hl 0 rfl) ?_
  refine lv_iload_n X.1 X.2.1 dX7_isFigure_1 rfl (lv_at hl 1 rfl) ?_
  refine cl_i I (runV (As := [.int (iI x)]) (rest := []) X (k_X7_figureAt l G S  x (by omega) ht hc) (gdC tb_387 (gdC tb_336 (gdC tb_337 (gdC tb_35 (gdC tb_338 gdB))))) ⟨ok_X7_figureAt, ⟨Nat.le_of_ble_eq_true rfl, Nat.le_of_ble_eq_true rfl⟩, rfl, rfl⟩ (PreV.of (C := RX7) (T := TX7) (N := 2) I (atC_text) rfl) rfl hl.1 rfl (Nat.le_of_ble_eq_true rfl) dX7_isFigure_2 ⟨Nat.zero_le _, Nat.zero_le _⟩) (fun r1 S2 H locs q3 I => ?_)
  obtain ⟨e1_, e2_⟩ := q3
  rw [e2_] at I
  rw [e1_]
  clear e1_ e2_
  have t4 := txat_r ht hc x
  refine rz_lt (tgt := 21) X (by omega) dX7_isFigure_5 (by decide) (fun c5 => ?_) (fun c5 => ?_)
  · skip
    refine ri_const X (v := 0) dX7_isFigure_21 ?_
    exact rt_i X hr hlk I (by rfl) (by first | (exfalso; omega) | exact (⟨(bI_f (by omega)).symm, rfl⟩)) dX7_isFigure_22
  · skip
    refine lv_aload_n X.1 X.2.1 dX7_isFigure_8 rfl (lv_at hl 0 rfl) ?_
    refine lv_iload_n X.1 X.2.1 dX7_isFigure_9 rfl (lv_at hl 1 rfl) ?_
    refine cl_i I (runV (As := [.int (iI x)]) (rest := []) X (k_X7_figureAt l G S  x (by omega) ht hc) (gdC tb_387 (gdC tb_336 (gdC tb_337 (gdC tb_35 (gdC tb_338 gdB))))) ⟨ok_X7_figureAt, ⟨Nat.le_of_ble_eq_true rfl, Nat.le_of_ble_eq_true rfl⟩, rfl, rfl⟩ (PreV.of (C := RX7) (T := TX7) (N := 2) I (atC_text) rfl) rfl hl.1 rfl (Nat.le_of_ble_eq_true rfl) dX7_isFigure_10 ⟨Nat.zero_le _, Nat.zero_le _⟩) (fun r6 S7 H locs q8 I => ?_)
    obtain ⟨e1_, e2_⟩ := q8
    rw [e2_] at I
    rw [e1_]
    clear e1_ e2_
    have t9 := txat_r ht hc x
    refine lv_iload_n X.1 X.2.1 dX7_isFigure_13 rfl (lv_at hl 2 rfl) ?_
    refine rj_gt (tgt := 21) X (by omega) (by omega) dX7_isFigure_14 (by decide) (fun c10 => ?_) (fun c10 => ?_)
    · skip
      refine ri_const X (v := 0) dX7_isFigure_21 ?_
      exact rt_i X hr hlk I (by rfl) (by first | (exfalso; omega) | exact (⟨(bI_f (by omega)).symm, rfl⟩)) dX7_isFigure_22
    · skip
      refine ri_const X (v := 1) dX7_isFigure_17 ?_
      refine lv_goto (tgt := 22) X.1 X.2.1 dX7_isFigure_18 (by decide) ?_
      exact rt_i X hr hlk I (by rfl) (by first | (exfalso; omega) | exact (⟨(bI_t (by omega)).symm, rfl⟩)) dX7_isFigure_22

theorem ok_X7_behindName : yX7_behindName.cls ≠ "java/lang/invoke/MethodHandle" ∧ yX7_behindName.cls ≠ "java/lang/invoke/VarHandle" ∧ (parseMethodDescriptor yX7_behindName.desc).map (fun d => d.parameters.length) = some 1 := ⟨by decide +kernel, by decide +kernel, by decide +kernel⟩
abbrev po_X7_behindName (S : St)  (x : Int) : Int → St → Prop := fun r S1 => r = bNam (txat S) x ∧ S1 = S
abbrev rm_X7_behindName : Room := ({ frames := 3, cells := 0, slots := 0, locals := 64 } : Room)
set_option maxRecDepth 100000 in
set_option maxHeartbeats 4000000 in
theorem k_X7_behindName (l : Launch) (G : Ge) (S : St)  (x : Int) (hx : -1000 ≤ x ∧ x ≤ 1000) (ht : 0 ≤ S.1 50 0 ∧ S.1 50 0 ≤ 200) (hc : ∀ i : Int, 0 ≤ i → i < S.1 50 0 → 32 ≤ S.1 0 i ∧ S.1 0 i ≤ 126) : Ki (KC G) l yX7_behindName cX7_behindName 4 .int rm_X7_behindName [.ref (G.2.2 1), .int (iI x)] S (po_X7_behindName S x) := by
  refine K_start (own := "NameSeeker$Text") (by decide +kernel) rfl (Nat.le_of_ble_eq_true rfl) ?_
  intro p e s m args below meth c X hr hlk I ls hl
  have hl : lv_has ls 4 [(0, .ref (G.2.2 1)), (1, .int (iI x))] := hl
  refine lv_aload_n X.1 X.2.1 dX7_behindName_0 rfl (lv_at hl 0 rfl) ?_
  refine lv_iload_n X.1 X.2.1 dX7_behindName_1 rfl (lv_at hl 1 rfl) ?_
  refine ri_const X (v := 1) dX7_behindName_2 ?_
  refine ri_add X (v := (x + 1)) rfl dX7_behindName_3 ?_
  refine ri_const X (v := 3) dX7_behindName_4 ?_
  refine cl_i I (runV (As := [.int (iI (x + 1)), .int (iI 3)]) (rest := []) X (k_X7_isFigure l G S  (x + 1) 3 (by omega) (by omega) ht hc) (gdC tb_383 (gdC tb_385 (gdC tb_4 (gdC tb_35 (gdC tb_386 gdB))))) ⟨ok_X7_isFigure, ⟨Nat.le_of_ble_eq_true rfl, Nat.le_of_ble_eq_true rfl⟩, rfl, rfl⟩ (PreV.of (C := RX7) (T := TX7) (N := 2) I (atC_text) rfl) rfl hl.1 rfl (Nat.le_of_ble_eq_true rfl) dX7_behindName_5 ⟨Nat.zero_le _, Nat.zero_le _⟩) (fun r1 S2 H locs q3 I => ?_)
  obtain ⟨e1_, e2_⟩ := q3
  rw [e2_] at I
  rw [e1_]
  clear e1_ e2_
  rcases Decidable.em ((48 ≤ txat S (x + 1) ∧ txat S (x + 1) ≤ 48 + 3)) with b4 | b4
  · rw [bI_t b4]
    refine rz_eq (tgt := 23) X (by omega) dX7_behindName_8 (by decide) (fun c5 => absurd c5 (by decide)) (fun _ => ?_)
    refine lv_aload_n X.1 X.2.1 dX7_behindName_11 rfl (lv_at hl 0 rfl) ?_
    refine lv_iload_n X.1 X.2.1 dX7_behindName_12 rfl (lv_at hl 1 rfl) ?_
    refine ri_const X (v := 2) dX7_behindName_13 ?_
    refine ri_add X (v := (x + 2)) rfl dX7_behindName_14 ?_
    refine cl_i I (runV (As := [.int (iI (x + 2))]) (rest := []) X (k_X7_at l G S  (x + 2) (by omega) ht hc) (gdC tb_339 (gdC tb_332 (gdC tb_333 (gdC tb_35 (gdC tb_334 gdB))))) ⟨ok_X7_at, ⟨Nat.le_of_ble_eq_true rfl, Nat.le_of_ble_eq_true rfl⟩, rfl, rfl⟩ (PreV.of (C := RX7) (T := TX7) (N := 2) I (atC_text) rfl) rfl hl.1 rfl (Nat.le_of_ble_eq_true rfl) dX7_behindName_15 ⟨Nat.zero_le _, Nat.zero_le _⟩) (fun r6 S7 H locs q8 I => ?_)
    obtain ⟨e1_, e2_⟩ := q8
    rw [e2_] at I
    rw [e1_]
    clear e1_ e2_
    have t9 := txat_r ht hc (x + 2)
    refine ri_push X (v := 44) (by decide) dX7_behindName_18 ?_
    refine rj_eq (tgt := 25) X (by omega) (by omega) dX7_behindName_20 (by decide) (fun c10 => ?_) (fun c10 => ?_)
    · skip
      refine ri_const X (v := 0) dX7_behindName_25 ?_
      refine lv_istore_n (lv' := [(2, .int (iI 0)), (0, .ref (G.2.2 1)), (1, .int (iI x))]) X.1 X.2.1 dX7_behindName_26 rfl hl (by decide) rfl (fun ls hl => ?_)
      have lp_27 : ∀ (n_ : Nat) (k : Int), (13 - k).toNat < n_ → ∀ (hk0 : 0 ≤ k ∧ k ≤ 13) (hk1 : k + sgc (txat S) ((x + 3) + k) (13 - k).toNat = sgc (txat S) (x + 3) 13) (H : Heap) (locs : List Loc), In (KC G) s s.heap H locs S → ∀ ls : Array Slot, lv_has ls 4 [(0, .ref (G.2.2 1)), (1, .int (iI x)), (2, .int (iI k))] → W p l e rm_X7_behindName s m args below meth c H locs 0 0 (MQ below (QI (KC G) (po_X7_behindName S x)) args s 0 0 (KC G).2.2.2) (F0 m 27 ls []) := by
        intro n_
        induction n_ with
        | zero => intro k hm; exact absurd hm (by omega)
        | succ n_ ih_27 =>
          intro k hm_27 hk0 hk1 H locs I ls hl
          refine lv_iload_n X.1 X.2.1 dX7_behindName_27 rfl (lv_at hl 2 rfl) ?_
          refine ri_push X (v := 12) (by decide) dX7_behindName_28 ?_
          refine rj_gt (tgt := 54) X (by omega) (by omega) dX7_behindName_30 (by decide) (fun c11 => ?_) (fun c11 => ?_)
          · skip
            have hk : k = sgc (txat S) (x + 3) 13 := by
              rw [← hk1]
              first | (rw [show (13 - k).toNat = 0 by omega, sgc]; omega) | (rw [sgc_no _ (by omega)]; omega)
            refine lv_iload_n X.1 X.2.1 dX7_behindName_54 rfl (lv_at hl 2 rfl) ?_
            refine ri_const X (v := 1) dX7_behindName_55 ?_
            refine rj_lt (tgt := 83) X (by omega) (by omega) dX7_behindName_56 (by decide) (fun c12 => ?_) (fun c12 => ?_)
            · skip
              refine ri_const X (v := 0) dX7_behindName_83 ?_
              refine lv_istore_n (lv' := [(3, .int (iI 0)), (0, .ref (G.2.2 1)), (1, .int (iI x)), (2, .int (iI k))]) X.1 X.2.1 dX7_behindName_84 rfl hl (by decide) rfl (fun ls hl => ?_)
              refine lv_iload_n X.1 X.2.1 dX7_behindName_85 rfl (lv_at hl 0 rfl) ?_
              refine rz_eq (tgt := 97) X (by omega) dX7_behindName_86 (by decide) (fun _ => ?_) (fun c13 => absurd c13 (fun q => q (by decide)))
              refine ri_const X (v := (-1)) dX7_behindName_97 ?_
              exact rt_i X hr hlk I rfl (by first | (exfalso; omega) | exact (⟨by unfold bNam; rw [← hk]; first | rw [if_pos (by omega)] | rw [if_neg (by omega)], rfl⟩)) dX7_behindName_98
            · skip
              refine lv_iload_n X.1 X.2.1 dX7_behindName_59 rfl (lv_at hl 2 rfl) ?_
              refine ri_push X (v := 12) (by decide) dX7_behindName_60 ?_
              refine rj_gt (tgt := 83) X (by omega) (by omega) dX7_behindName_62 (by decide) (fun c14 => ?_) (fun c14 => ?_)
              · skip
                refine ri_const X (v := 0) dX7_behindName_83 ?_
                refine lv_istore_n (lv' := [(3, .int (iI 0)), (0, .ref (G.2.2 1)), (1, .int (iI x)), (2, .int (iI k))]) X.1 X.2.1 dX7_behindName_84 rfl hl (by decide) rfl (fun ls hl => ?_)
                refine lv_iload_n X.1 X.2.1 dX7_behindName_85 rfl (lv_at hl 0 rfl) ?_
                refine rz_eq (tgt := 97) X (by omega) dX7_behindName_86 (by decide) (fun _ => ?_) (fun c15 => absurd c15 (fun q => q (by decide)))
                refine ri_const X (v := (-1)) dX7_behindName_97 ?_
                exact rt_i X hr hlk I rfl (by first | (exfalso; omega) | exact (⟨by unfold bNam; rw [← hk]; first | rw [if_pos (by omega)] | rw [if_neg (by omega)], rfl⟩)) dX7_behindName_98
              · skip
                refine lv_aload_n X.1 X.2.1 dX7_behindName_65 rfl (lv_at hl 0 rfl) ?_
                refine lv_iload_n X.1 X.2.1 dX7_behindName_66 rfl (lv_at hl 1 rfl) ?_
                refine ri_const X (v := 3) dX7_behindName_67 ?_
                refine ri_add X (v := (x + 3)) rfl dX7_behindName_68 ?_
                refine lv_iload_n X.1 X.2.1 dX7_behindName_69 rfl (lv_at hl 2 rfl) ?_
                refine ri_add X (v := ((x + 3) + k)) rfl dX7_behindName_70 ?_
                refine cl_i I (runV (As := [.int (iI ((x + 3) + k))]) (rest := []) X (k_X7_at l G S  ((x + 3) + k) (by omega) ht hc) (gdC tb_339 (gdC tb_332 (gdC tb_333 (gdC tb_35 (gdC tb_334 gdB))))) ⟨ok_X7_at, ⟨Nat.le_of_ble_eq_true rfl, Nat.le_of_ble_eq_true rfl⟩, rfl, rfl⟩ (PreV.of (C := RX7) (T := TX7) (N := 2) I (atC_text) rfl) rfl hl.1 rfl (Nat.le_of_ble_eq_true rfl) dX7_behindName_71 ⟨Nat.zero_le _, Nat.zero_le _⟩) (fun r16 S17 H locs q18 I => ?_)
                obtain ⟨e1_, e2_⟩ := q18
                rw [e2_] at I
                rw [e1_]
                clear e1_ e2_
                have t19 := txat_r ht hc ((x + 3) + k)
                refine ri_push X (v := 59) (by decide) dX7_behindName_74 ?_
                refine rj_ne (tgt := 83) X (by omega) (by omega) dX7_behindName_76 (by decide) (fun c20 => ?_) (fun c20 => ?_)
                · skip
                  refine ri_const X (v := 0) dX7_behindName_83 ?_
                  refine lv_istore_n (lv' := [(3, .int (iI 0)), (0, .ref (G.2.2 1)), (1, .int (iI x)), (2, .int (iI k))]) X.1 X.2.1 dX7_behindName_84 rfl hl (by decide) rfl (fun ls hl => ?_)
                  refine lv_iload_n X.1 X.2.1 dX7_behindName_85 rfl (lv_at hl 0 rfl) ?_
                  refine rz_eq (tgt := 97) X (by omega) dX7_behindName_86 (by decide) (fun _ => ?_) (fun c21 => absurd c21 (fun q => q (by decide)))
                  refine ri_const X (v := (-1)) dX7_behindName_97 ?_
                  exact rt_i X hr hlk I rfl (by first | (exfalso; omega) | exact (⟨by unfold bNam; rw [← hk]; first | rw [if_pos (by omega)] | rw [if_neg (by omega)], rfl⟩)) dX7_behindName_98
                · skip
                  refine ri_const X (v := 1) dX7_behindName_79 ?_
                  refine lv_goto (tgt := 84) X.1 X.2.1 dX7_behindName_80 (by decide) ?_
                  refine lv_istore_n (lv' := [(3, .int (iI 1)), (0, .ref (G.2.2 1)), (1, .int (iI x)), (2, .int (iI k))]) X.1 X.2.1 dX7_behindName_84 rfl hl (by decide) rfl (fun ls hl => ?_)
                  refine lv_iload_n X.1 X.2.1 dX7_behindName_85 rfl (lv_at hl 0 rfl) ?_
                  refine rz_eq (tgt := 97) X (by omega) dX7_behindName_86 (by decide) (fun c22 => absurd c22 (by decide)) (fun _ => ?_)
                  refine lv_iload_n X.1 X.2.1 dX7_behindName_89 rfl (lv_at hl 2 rfl) ?_
                  refine ri_const X (v := 4) dX7_behindName_90 ?_
                  refine ri_add X (v := (x + 4)) rfl dX7_behindName_91 ?_
                  refine lv_iload_n X.1 X.2.1 dX7_behindName_92 rfl (lv_at hl 3 rfl) ?_
                  refine ri_add X (v := ((x + 4) + k)) rfl dX7_behindName_93 ?_
                  refine lv_goto (tgt := 98) X.1 X.2.1 dX7_behindName_94 (by decide) ?_
                  exact rt_i X hr hlk I rfl (by first | (exfalso; omega) | exact (⟨by unfold bNam; rw [← hk]; first | rw [if_pos (by omega)] | rw [if_neg (by omega)], rfl⟩)) dX7_behindName_98
          · skip
            refine lv_aload_n X.1 X.2.1 dX7_behindName_33 rfl (lv_at hl 0 rfl) ?_
            refine lv_iload_n X.1 X.2.1 dX7_behindName_34 rfl (lv_at hl 1 rfl) ?_
            refine ri_const X (v := 3) dX7_behindName_35 ?_
            refine ri_add X (v := (x + 3)) rfl dX7_behindName_36 ?_
            refine lv_iload_n X.1 X.2.1 dX7_behindName_37 rfl (lv_at hl 2 rfl) ?_
            refine ri_add X (v := ((x + 3) + k)) rfl dX7_behindName_38 ?_
            refine cl_i I (runV (As := [.int (iI ((x + 3) + k))]) (rest := []) X (k_X7_at l G S  ((x + 3) + k) (by omega) ht hc) (gdC tb_339 (gdC tb_332 (gdC tb_333 (gdC tb_35 (gdC tb_334 gdB))))) ⟨ok_X7_at, ⟨Nat.le_of_ble_eq_true rfl, Nat.le_of_ble_eq_true rfl⟩, rfl, rfl⟩ (PreV.of (C := RX7) (T := TX7) (N := 2) I (atC_text) rfl) rfl hl.1 rfl (Nat.le_of_ble_eq_true rfl) dX7_behindName_39 ⟨Nat.zero_le _, Nat.zero_le _⟩) (fun r23 S24 H locs q25 I => ?_)
            obtain ⟨e1_, e2_⟩ := q25
            rw [e2_] at I
            rw [e1_]
            clear e1_ e2_
            have t26 := txat_r ht hc ((x + 3) + k)
            refine cl_i I (runSN (As := [.int (iI (txat S ((x + 3) + k)))]) (rest := []) X (k_X9_isSign l G S  (txat S ((x + 3) + k)) (by omega)) (gdC tb_351 gdB) (I.2.2.2.2 _ (List.mem_of_getElem? (i := 4) rfl)) tb_350 tb_34 ⟨ok_X9_isSign, ⟨Nat.le_of_ble_eq_true rfl, Nat.le_of_ble_eq_true rfl⟩, rfl, rfl⟩ (PreS.of I) rfl hl.1 rfl (Nat.le_of_ble_eq_true rfl) dX7_behindName_42 ⟨Nat.zero_le _, Nat.zero_le _⟩) (fun r27 S28 H locs q29 I => ?_)
            obtain ⟨e1_, e2_⟩ := q29
            rw [e2_] at I
            rw [e1_]
            clear e1_ e2_
            rcases Decidable.em (((97 ≤ ((txat S ((x + 3) + k))) ∧ ((txat S ((x + 3) + k))) ≤ 122) ∨ (65 ≤ ((txat S ((x + 3) + k))) ∧ ((txat S ((x + 3) + k))) ≤ 90) ∨ ((txat S ((x + 3) + k))) = 95)) with b30 | b30
            · rw [bI_t b30]
              refine rz_eq (tgt := 54) X (by omega) dX7_behindName_45 (by decide) (fun c31 => absurd c31 (by decide)) (fun _ => ?_)
              refine ri_iinc X (k := 2) (v := (k + 1)) (lv' := [(2, .int (iI (k + 1))), (0, .ref (G.2.2 1)), (1, .int (iI x))]) rfl dX7_behindName_48 hl rfl (by decide) rfl (fun ls hl => ?_)
              refine lv_goto (tgt := 27) X.1 X.2.1 dX7_behindName_51 (by decide) ?_
              exact ih_27 (k + 1) (by omega) (by omega) (by have e := sgc_yes (f := txat S) (p := x + 3 + k) (n := (13 - k).toNat) (by omega) (by omega); rw [e, show (13 - k).toNat - 1 = (13 - (k + 1)).toNat by omega, show x + 3 + k + 1 = x + 3 + (k + 1) by omega] at hk1; omega) _ _ I ls (lv_sub hl [1, 2, 0] rfl)
            · rw [bI_f b30]
              refine rz_eq (tgt := 54) X (by omega) dX7_behindName_45 (by decide) (fun _ => ?_) (fun c32 => absurd c32 (fun q => q (by decide)))
              have hk : k = sgc (txat S) (x + 3) 13 := by
                rw [← hk1]
                first | (rw [show (13 - k).toNat = 0 by omega, sgc]; omega) | (rw [sgc_no _ (by omega)]; omega)
              refine lv_iload_n X.1 X.2.1 dX7_behindName_54 rfl (lv_at hl 2 rfl) ?_
              refine ri_const X (v := 1) dX7_behindName_55 ?_
              refine rj_lt (tgt := 83) X (by omega) (by omega) dX7_behindName_56 (by decide) (fun c33 => ?_) (fun c33 => ?_)
              · skip
                refine ri_const X (v := 0) dX7_behindName_83 ?_
                refine lv_istore_n (lv' := [(3, .int (iI 0)), (0, .ref (G.2.2 1)), (1, .int (iI x)), (2, .int (iI k))]) X.1 X.2.1 dX7_behindName_84 rfl hl (by decide) rfl (fun ls hl => ?_)
                refine lv_iload_n X.1 X.2.1 dX7_behindName_85 rfl (lv_at hl 0 rfl) ?_
                refine rz_eq (tgt := 97) X (by omega) dX7_behindName_86 (by decide) (fun _ => ?_) (fun c34 => absurd c34 (fun q => q (by decide)))
                refine ri_const X (v := (-1)) dX7_behindName_97 ?_
                exact rt_i X hr hlk I rfl (by first | (exfalso; omega) | exact (⟨by unfold bNam; rw [← hk]; first | rw [if_pos (by omega)] | rw [if_neg (by omega)], rfl⟩)) dX7_behindName_98
              · skip
                refine lv_iload_n X.1 X.2.1 dX7_behindName_59 rfl (lv_at hl 2 rfl) ?_
                refine ri_push X (v := 12) (by decide) dX7_behindName_60 ?_
                refine rj_gt (tgt := 83) X (by omega) (by omega) dX7_behindName_62 (by decide) (fun c35 => ?_) (fun c35 => ?_)
                · skip
                  refine ri_const X (v := 0) dX7_behindName_83 ?_
                  refine lv_istore_n (lv' := [(3, .int (iI 0)), (0, .ref (G.2.2 1)), (1, .int (iI x)), (2, .int (iI k))]) X.1 X.2.1 dX7_behindName_84 rfl hl (by decide) rfl (fun ls hl => ?_)
                  refine lv_iload_n X.1 X.2.1 dX7_behindName_85 rfl (lv_at hl 0 rfl) ?_
                  refine rz_eq (tgt := 97) X (by omega) dX7_behindName_86 (by decide) (fun _ => ?_) (fun c36 => absurd c36 (fun q => q (by decide)))
                  refine ri_const X (v := (-1)) dX7_behindName_97 ?_
                  exact rt_i X hr hlk I rfl (by first | (exfalso; omega) | exact (⟨by unfold bNam; rw [← hk]; first | rw [if_pos (by omega)] | rw [if_neg (by omega)], rfl⟩)) dX7_behindName_98
                · skip
                  refine lv_aload_n X.1 X.2.1 dX7_behindName_65 rfl (lv_at hl 0 rfl) ?_
                  refine lv_iload_n X.1 X.2.1 dX7_behindName_66 rfl (lv_at hl 1 rfl) ?_
                  refine ri_const X (v := 3) dX7_behindName_67 ?_
                  refine ri_add X (v := (x + 3)) rfl dX7_behindName_68 ?_
                  refine lv_iload_n X.1 X.2.1 dX7_behindName_69 rfl (lv_at hl 2 rfl) ?_
                  refine ri_add X (v := ((x + 3) + k)) rfl dX7_behindName_70 ?_
                  refine cl_i I (runV (As := [.int (iI ((x + 3) + k))]) (rest := []) X (k_X7_at l G S  ((x + 3) + k) (by omega) ht hc) (gdC tb_339 (gdC tb_332 (gdC tb_333 (gdC tb_35 (gdC tb_334 gdB))))) ⟨ok_X7_at, ⟨Nat.le_of_ble_eq_true rfl, Nat.le_of_ble_eq_true rfl⟩, rfl, rfl⟩ (PreV.of (C := RX7) (T := TX7) (N := 2) I (atC_text) rfl) rfl hl.1 rfl (Nat.le_of_ble_eq_true rfl) dX7_behindName_71 ⟨Nat.zero_le _, Nat.zero_le _⟩) (fun r37 S38 H locs q39 I => ?_)
                  obtain ⟨e1_, e2_⟩ := q39
                  rw [e2_] at I
                  rw [e1_]
                  clear e1_ e2_
                  have t40 := txat_r ht hc ((x + 3) + k)
                  refine ri_push X (v := 59) (by decide) dX7_behindName_74 ?_
                  refine rj_ne (tgt := 83) X (by omega) (by omega) dX7_behindName_76 (by decide) (fun c41 => ?_) (fun c41 => ?_)
                  · skip
                    refine ri_const X (v := 0) dX7_behindName_83 ?_
                    refine lv_istore_n (lv' := [(3, .int (iI 0)), (0, .ref (G.2.2 1)), (1, .int (iI x)), (2, .int (iI k))]) X.1 X.2.1 dX7_behindName_84 rfl hl (by decide) rfl (fun ls hl => ?_)
                    refine lv_iload_n X.1 X.2.1 dX7_behindName_85 rfl (lv_at hl 0 rfl) ?_
                    refine rz_eq (tgt := 97) X (by omega) dX7_behindName_86 (by decide) (fun _ => ?_) (fun c42 => absurd c42 (fun q => q (by decide)))
                    refine ri_const X (v := (-1)) dX7_behindName_97 ?_
                    exact rt_i X hr hlk I rfl (by first | (exfalso; omega) | exact (⟨by unfold bNam; rw [← hk]; first | rw [if_pos (by omega)] | rw [if_neg (by omega)], rfl⟩)) dX7_behindName_98
                  · skip
                    refine ri_const X (v := 1) dX7_behindName_79 ?_
                    refine lv_goto (tgt := 84) X.1 X.2.1 dX7_behindName_80 (by decide) ?_
                    refine lv_istore_n (lv' := [(3, .int (iI 1)), (0, .ref (G.2.2 1)), (1, .int (iI x)), (2, .int (iI k))]) X.1 X.2.1 dX7_behindName_84 rfl hl (by decide) rfl (fun ls hl => ?_)
                    refine lv_iload_n X.1 X.2.1 dX7_behindName_85 rfl (lv_at hl 0 rfl) ?_
                    refine rz_eq (tgt := 97) X (by omega) dX7_behindName_86 (by decide) (fun c43 => absurd c43 (by decide)) (fun _ => ?_)
                    refine lv_iload_n X.1 X.2.1 dX7_behindName_89 rfl (lv_at hl 2 rfl) ?_
                    refine ri_const X (v := 4) dX7_behindName_90 ?_
                    refine ri_add X (v := (x + 4)) rfl dX7_behindName_91 ?_
                    refine lv_iload_n X.1 X.2.1 dX7_behindName_92 rfl (lv_at hl 3 rfl) ?_
                    refine ri_add X (v := ((x + 4) + k)) rfl dX7_behindName_93 ?_
                    refine lv_goto (tgt := 98) X.1 X.2.1 dX7_behindName_94 (by decide) ?_
                    exact rt_i X hr hlk I rfl (by first | (exfalso; omega) | exact (⟨by unfold bNam; rw [← hk]; first | rw [if_pos (by omega)] | rw [if_neg (by omega)], rfl⟩)) dX7_behindName_98
      exact lp_27 (14) 0 (by omega) (by omega) (by simp) _ _ I ls (lv_sub hl [1, 2, 0] rfl)
    · skip
      refine ri_const X (v := (-1)) dX7_behindName_23 ?_
      exact rt_i X hr hlk I rfl (by first | (exfalso; omega) | exact (⟨by unfold bNam; first | rw [if_pos (by omega)] | rw [if_neg (by omega)], rfl⟩)) dX7_behindName_24
  · rw [bI_f b4]
    refine rz_eq (tgt := 23) X (by omega) dX7_behindName_8 (by decide) (fun _ => ?_) (fun c44 => absurd c44 (fun q => q (by decide)))
    refine ri_const X (v := (-1)) dX7_behindName_23 ?_
    exact rt_i X hr hlk I rfl (by first | (exfalso; omega) | exact (⟨by unfold bNam; first | rw [if_pos (by omega)] | rw [if_neg (by omega)], rfl⟩)) dX7_behindName_24

theorem ok_X7_behindWorths : yX7_behindWorths.cls ≠ "java/lang/invoke/MethodHandle" ∧ yX7_behindWorths.cls ≠ "java/lang/invoke/VarHandle" ∧ (parseMethodDescriptor yX7_behindWorths.desc).map (fun d => d.parameters.length) = some 1 := ⟨by decide +kernel, by decide +kernel, by decide +kernel⟩
abbrev po_X7_behindWorths (S : St)  (x : Int) : Int → St → Prop := fun r S1 => r = bWor (txat S) x ∧ S1 = S
abbrev rm_X7_behindWorths : Room := ({ frames := 3, cells := 0, slots := 0, locals := 64 } : Room)
set_option maxRecDepth 100000 in
set_option maxHeartbeats 4000000 in
theorem k_X7_behindWorths (l : Launch) (G : Ge) (S : St)  (x : Int) (hx : -1000 ≤ x ∧ x ≤ 1000) (ht : 0 ≤ S.1 50 0 ∧ S.1 50 0 ≤ 200) (hc : ∀ i : Int, 0 ≤ i → i < S.1 50 0 → 32 ≤ S.1 0 i ∧ S.1 0 i ≤ 126) : Ki (KC G) l yX7_behindWorths cX7_behindWorths 3 .int rm_X7_behindWorths [.ref (G.2.2 1), .int (iI x)] S (po_X7_behindWorths S x) := by
  refine K_start (own := "NameSeeker$Text") (by decide +kernel) rfl (Nat.le_of_ble_eq_true rfl) ?_
  intro p e s m args below meth c X hr hlk I ls hl
  have hl : lv_has ls 3 [(0, .ref (G.2.2 1)), (1, .int (iI x))] := hl
  refine lv_aload_n X.1 X.2.1 dX7_behindWorths_0 rfl (lv_at hl 0 rfl) ?_
  refine lv_iload_n X.1 X.2.1 dX7_behindWorths_1 rfl (lv_at hl 1 rfl) ?_
  refine ri_const X (v := 1) dX7_behindWorths_2 ?_
  refine ri_add X (v := (x + 1)) rfl dX7_behindWorths_3 ?_
  refine ri_push X (v := 9) (by decide) dX7_behindWorths_4 ?_
  refine cl_i I (runV (As := [.int (iI (x + 1)), .int (iI 9)]) (rest := []) X (k_X7_isFigure l G S  (x + 1) 9 (by omega) (by omega) ht hc) (gdC tb_383 (gdC tb_385 (gdC tb_4 (gdC tb_35 (gdC tb_386 gdB))))) ⟨ok_X7_isFigure, ⟨Nat.le_of_ble_eq_true rfl, Nat.le_of_ble_eq_true rfl⟩, rfl, rfl⟩ (PreV.of (C := RX7) (T := TX7) (N := 2) I (atC_text) rfl) rfl hl.1 rfl (Nat.le_of_ble_eq_true rfl) dX7_behindWorths_6 ⟨Nat.zero_le _, Nat.zero_le _⟩) (fun r1 S2 H locs q3 I => ?_)
  obtain ⟨e1_, e2_⟩ := q3
  rw [e2_] at I
  rw [e1_]
  clear e1_ e2_
  rcases Decidable.em ((48 ≤ txat S (x + 1) ∧ txat S (x + 1) ≤ 48 + 9)) with b4 | b4
  · rw [bI_t b4]
    refine rz_eq (tgt := 77) X (by omega) dX7_behindWorths_9 (by decide) (fun c5 => absurd c5 (by decide)) (fun _ => ?_)
    refine lv_aload_n X.1 X.2.1 dX7_behindWorths_12 rfl (lv_at hl 0 rfl) ?_
    refine lv_iload_n X.1 X.2.1 dX7_behindWorths_13 rfl (lv_at hl 1 rfl) ?_
    refine ri_const X (v := 2) dX7_behindWorths_14 ?_
    refine ri_add X (v := (x + 2)) rfl dX7_behindWorths_15 ?_
    refine cl_i I (runV (As := [.int (iI (x + 2))]) (rest := []) X (k_X7_at l G S  (x + 2) (by omega) ht hc) (gdC tb_339 (gdC tb_332 (gdC tb_333 (gdC tb_35 (gdC tb_334 gdB))))) ⟨ok_X7_at, ⟨Nat.le_of_ble_eq_true rfl, Nat.le_of_ble_eq_true rfl⟩, rfl, rfl⟩ (PreV.of (C := RX7) (T := TX7) (N := 2) I (atC_text) rfl) rfl hl.1 rfl (Nat.le_of_ble_eq_true rfl) dX7_behindWorths_16 ⟨Nat.zero_le _, Nat.zero_le _⟩) (fun r6 S7 H locs q8 I => ?_)
    obtain ⟨e1_, e2_⟩ := q8
    rw [e2_] at I
    rw [e1_]
    clear e1_ e2_
    have t9 := txat_r ht hc (x + 2)
    refine ri_push X (v := 44) (by decide) dX7_behindWorths_19 ?_
    refine rj_ne (tgt := 77) X (by omega) (by omega) dX7_behindWorths_21 (by decide) (fun c10 => ?_) (fun c10 => ?_)
    · skip
      refine ri_const X (v := 0) dX7_behindWorths_77 ?_
      refine lv_istore_n (lv' := [(2, .int (iI 0)), (0, .ref (G.2.2 1)), (1, .int (iI x))]) X.1 X.2.1 dX7_behindWorths_78 rfl hl (by decide) rfl (fun ls hl => ?_)
      refine lv_iload_n X.1 X.2.1 dX7_behindWorths_79 rfl (lv_at hl 0 rfl) ?_
      refine rz_eq (tgt := 90) X (by omega) dX7_behindWorths_80 (by decide) (fun _ => ?_) (fun c11 => absurd c11 (fun q => q (by decide)))
      refine ri_const X (v := (-1)) dX7_behindWorths_90 ?_
      exact rt_i X hr hlk I rfl (by first | (exfalso; omega) | exact (⟨by unfold bWor; first | rw [if_pos (by omega)] | rw [if_neg (by omega)], rfl⟩)) dX7_behindWorths_91
    · skip
      refine lv_aload_n X.1 X.2.1 dX7_behindWorths_24 rfl (lv_at hl 0 rfl) ?_
      refine lv_iload_n X.1 X.2.1 dX7_behindWorths_25 rfl (lv_at hl 1 rfl) ?_
      refine ri_const X (v := 3) dX7_behindWorths_26 ?_
      refine ri_add X (v := (x + 3)) rfl dX7_behindWorths_27 ?_
      refine ri_push X (v := 9) (by decide) dX7_behindWorths_28 ?_
      refine cl_i I (runV (As := [.int (iI (x + 3)), .int (iI 9)]) (rest := []) X (k_X7_isFigure l G S  (x + 3) 9 (by omega) (by omega) ht hc) (gdC tb_383 (gdC tb_385 (gdC tb_4 (gdC tb_35 (gdC tb_386 gdB))))) ⟨ok_X7_isFigure, ⟨Nat.le_of_ble_eq_true rfl, Nat.le_of_ble_eq_true rfl⟩, rfl, rfl⟩ (PreV.of (C := RX7) (T := TX7) (N := 2) I (atC_text) rfl) rfl hl.1 rfl (Nat.le_of_ble_eq_true rfl) dX7_behindWorths_30 ⟨Nat.zero_le _, Nat.zero_le _⟩) (fun r12 S13 H locs q14 I => ?_)
      obtain ⟨e1_, e2_⟩ := q14
      rw [e2_] at I
      rw [e1_]
      clear e1_ e2_
      rcases Decidable.em ((48 ≤ txat S (x + 3) ∧ txat S (x + 3) ≤ 48 + 9)) with b15 | b15
      · rw [bI_t b15]
        refine rz_eq (tgt := 77) X (by omega) dX7_behindWorths_33 (by decide) (fun c16 => absurd c16 (by decide)) (fun _ => ?_)
        refine lv_aload_n X.1 X.2.1 dX7_behindWorths_36 rfl (lv_at hl 0 rfl) ?_
        refine lv_iload_n X.1 X.2.1 dX7_behindWorths_37 rfl (lv_at hl 1 rfl) ?_
        refine ri_const X (v := 4) dX7_behindWorths_38 ?_
        refine ri_add X (v := (x + 4)) rfl dX7_behindWorths_39 ?_
        refine cl_i I (runV (As := [.int (iI (x + 4))]) (rest := []) X (k_X7_at l G S  (x + 4) (by omega) ht hc) (gdC tb_339 (gdC tb_332 (gdC tb_333 (gdC tb_35 (gdC tb_334 gdB))))) ⟨ok_X7_at, ⟨Nat.le_of_ble_eq_true rfl, Nat.le_of_ble_eq_true rfl⟩, rfl, rfl⟩ (PreV.of (C := RX7) (T := TX7) (N := 2) I (atC_text) rfl) rfl hl.1 rfl (Nat.le_of_ble_eq_true rfl) dX7_behindWorths_40 ⟨Nat.zero_le _, Nat.zero_le _⟩) (fun r17 S18 H locs q19 I => ?_)
        obtain ⟨e1_, e2_⟩ := q19
        rw [e2_] at I
        rw [e1_]
        clear e1_ e2_
        have t20 := txat_r ht hc (x + 4)
        refine ri_push X (v := 44) (by decide) dX7_behindWorths_43 ?_
        refine rj_ne (tgt := 77) X (by omega) (by omega) dX7_behindWorths_45 (by decide) (fun c21 => ?_) (fun c21 => ?_)
        · skip
          refine ri_const X (v := 0) dX7_behindWorths_77 ?_
          refine lv_istore_n (lv' := [(2, .int (iI 0)), (0, .ref (G.2.2 1)), (1, .int (iI x))]) X.1 X.2.1 dX7_behindWorths_78 rfl hl (by decide) rfl (fun ls hl => ?_)
          refine lv_iload_n X.1 X.2.1 dX7_behindWorths_79 rfl (lv_at hl 0 rfl) ?_
          refine rz_eq (tgt := 90) X (by omega) dX7_behindWorths_80 (by decide) (fun _ => ?_) (fun c22 => absurd c22 (fun q => q (by decide)))
          refine ri_const X (v := (-1)) dX7_behindWorths_90 ?_
          exact rt_i X hr hlk I rfl (by first | (exfalso; omega) | exact (⟨by unfold bWor; first | rw [if_pos (by omega)] | rw [if_neg (by omega)], rfl⟩)) dX7_behindWorths_91
        · skip
          refine lv_aload_n X.1 X.2.1 dX7_behindWorths_48 rfl (lv_at hl 0 rfl) ?_
          refine lv_iload_n X.1 X.2.1 dX7_behindWorths_49 rfl (lv_at hl 1 rfl) ?_
          refine ri_const X (v := 5) dX7_behindWorths_50 ?_
          refine ri_add X (v := (x + 5)) rfl dX7_behindWorths_51 ?_
          refine ri_push X (v := 9) (by decide) dX7_behindWorths_52 ?_
          refine cl_i I (runV (As := [.int (iI (x + 5)), .int (iI 9)]) (rest := []) X (k_X7_isFigure l G S  (x + 5) 9 (by omega) (by omega) ht hc) (gdC tb_383 (gdC tb_385 (gdC tb_4 (gdC tb_35 (gdC tb_386 gdB))))) ⟨ok_X7_isFigure, ⟨Nat.le_of_ble_eq_true rfl, Nat.le_of_ble_eq_true rfl⟩, rfl, rfl⟩ (PreV.of (C := RX7) (T := TX7) (N := 2) I (atC_text) rfl) rfl hl.1 rfl (Nat.le_of_ble_eq_true rfl) dX7_behindWorths_54 ⟨Nat.zero_le _, Nat.zero_le _⟩) (fun r23 S24 H locs q25 I => ?_)
          obtain ⟨e1_, e2_⟩ := q25
          rw [e2_] at I
          rw [e1_]
          clear e1_ e2_
          rcases Decidable.em ((48 ≤ txat S (x + 5) ∧ txat S (x + 5) ≤ 48 + 9)) with b26 | b26
          · rw [bI_t b26]
            refine rz_eq (tgt := 77) X (by omega) dX7_behindWorths_57 (by decide) (fun c27 => absurd c27 (by decide)) (fun _ => ?_)
            refine lv_aload_n X.1 X.2.1 dX7_behindWorths_60 rfl (lv_at hl 0 rfl) ?_
            refine lv_iload_n X.1 X.2.1 dX7_behindWorths_61 rfl (lv_at hl 1 rfl) ?_
            refine ri_push X (v := 6) (by decide) dX7_behindWorths_62 ?_
            refine ri_add X (v := (x + 6)) rfl dX7_behindWorths_64 ?_
            refine cl_i I (runV (As := [.int (iI (x + 6))]) (rest := []) X (k_X7_at l G S  (x + 6) (by omega) ht hc) (gdC tb_339 (gdC tb_332 (gdC tb_333 (gdC tb_35 (gdC tb_334 gdB))))) ⟨ok_X7_at, ⟨Nat.le_of_ble_eq_true rfl, Nat.le_of_ble_eq_true rfl⟩, rfl, rfl⟩ (PreV.of (C := RX7) (T := TX7) (N := 2) I (atC_text) rfl) rfl hl.1 rfl (Nat.le_of_ble_eq_true rfl) dX7_behindWorths_65 ⟨Nat.zero_le _, Nat.zero_le _⟩) (fun r28 S29 H locs q30 I => ?_)
            obtain ⟨e1_, e2_⟩ := q30
            rw [e2_] at I
            rw [e1_]
            clear e1_ e2_
            have t31 := txat_r ht hc (x + 6)
            refine ri_push X (v := 59) (by decide) dX7_behindWorths_68 ?_
            refine rj_ne (tgt := 77) X (by omega) (by omega) dX7_behindWorths_70 (by decide) (fun c32 => ?_) (fun c32 => ?_)
            · skip
              refine ri_const X (v := 0) dX7_behindWorths_77 ?_
              refine lv_istore_n (lv' := [(2, .int (iI 0)), (0, .ref (G.2.2 1)), (1, .int (iI x))]) X.1 X.2.1 dX7_behindWorths_78 rfl hl (by decide) rfl (fun ls hl => ?_)
              refine lv_iload_n X.1 X.2.1 dX7_behindWorths_79 rfl (lv_at hl 0 rfl) ?_
              refine rz_eq (tgt := 90) X (by omega) dX7_behindWorths_80 (by decide) (fun _ => ?_) (fun c33 => absurd c33 (fun q => q (by decide)))
              refine ri_const X (v := (-1)) dX7_behindWorths_90 ?_
              exact rt_i X hr hlk I rfl (by first | (exfalso; omega) | exact (⟨by unfold bWor; first | rw [if_pos (by omega)] | rw [if_neg (by omega)], rfl⟩)) dX7_behindWorths_91
            · skip
              refine ri_const X (v := 1) dX7_behindWorths_73 ?_
              refine lv_goto (tgt := 78) X.1 X.2.1 dX7_behindWorths_74 (by decide) ?_
              refine lv_istore_n (lv' := [(2, .int (iI 1)), (0, .ref (G.2.2 1)), (1, .int (iI x))]) X.1 X.2.1 dX7_behindWorths_78 rfl hl (by decide) rfl (fun ls hl => ?_)
              refine lv_iload_n X.1 X.2.1 dX7_behindWorths_79 rfl (lv_at hl 0 rfl) ?_
              refine rz_eq (tgt := 90) X (by omega) dX7_behindWorths_80 (by decide) (fun c34 => absurd c34 (by decide)) (fun _ => ?_)
              refine lv_iload_n X.1 X.2.1 dX7_behindWorths_83 rfl (lv_at hl 2 rfl) ?_
              refine ri_push X (v := 7) (by decide) dX7_behindWorths_84 ?_
              refine ri_add X (v := (x + 7)) rfl dX7_behindWorths_86 ?_
              refine lv_goto (tgt := 91) X.1 X.2.1 dX7_behindWorths_87 (by decide) ?_
              exact rt_i X hr hlk I rfl (by first | (exfalso; omega) | exact (⟨by unfold bWor; first | rw [if_pos (by omega)] | rw [if_neg (by omega)], rfl⟩)) dX7_behindWorths_91
          · rw [bI_f b26]
            refine rz_eq (tgt := 77) X (by omega) dX7_behindWorths_57 (by decide) (fun _ => ?_) (fun c35 => absurd c35 (fun q => q (by decide)))
            refine ri_const X (v := 0) dX7_behindWorths_77 ?_
            refine lv_istore_n (lv' := [(2, .int (iI 0)), (0, .ref (G.2.2 1)), (1, .int (iI x))]) X.1 X.2.1 dX7_behindWorths_78 rfl hl (by decide) rfl (fun ls hl => ?_)
            refine lv_iload_n X.1 X.2.1 dX7_behindWorths_79 rfl (lv_at hl 0 rfl) ?_
            refine rz_eq (tgt := 90) X (by omega) dX7_behindWorths_80 (by decide) (fun _ => ?_) (fun c36 => absurd c36 (fun q => q (by decide)))
            refine ri_const X (v := (-1)) dX7_behindWorths_90 ?_
            exact rt_i X hr hlk I rfl (by first | (exfalso; omega) | exact (⟨by unfold bWor; first | rw [if_pos (by omega)] | rw [if_neg (by omega)], rfl⟩)) dX7_behindWorths_91
      · rw [bI_f b15]
        refine rz_eq (tgt := 77) X (by omega) dX7_behindWorths_33 (by decide) (fun _ => ?_) (fun c37 => absurd c37 (fun q => q (by decide)))
        refine ri_const X (v := 0) dX7_behindWorths_77 ?_
        refine lv_istore_n (lv' := [(2, .int (iI 0)), (0, .ref (G.2.2 1)), (1, .int (iI x))]) X.1 X.2.1 dX7_behindWorths_78 rfl hl (by decide) rfl (fun ls hl => ?_)
        refine lv_iload_n X.1 X.2.1 dX7_behindWorths_79 rfl (lv_at hl 0 rfl) ?_
        refine rz_eq (tgt := 90) X (by omega) dX7_behindWorths_80 (by decide) (fun _ => ?_) (fun c38 => absurd c38 (fun q => q (by decide)))
        refine ri_const X (v := (-1)) dX7_behindWorths_90 ?_
        exact rt_i X hr hlk I rfl (by first | (exfalso; omega) | exact (⟨by unfold bWor; first | rw [if_pos (by omega)] | rw [if_neg (by omega)], rfl⟩)) dX7_behindWorths_91
  · rw [bI_f b4]
    refine rz_eq (tgt := 77) X (by omega) dX7_behindWorths_9 (by decide) (fun _ => ?_) (fun c39 => absurd c39 (fun q => q (by decide)))
    refine ri_const X (v := 0) dX7_behindWorths_77 ?_
    refine lv_istore_n (lv' := [(2, .int (iI 0)), (0, .ref (G.2.2 1)), (1, .int (iI x))]) X.1 X.2.1 dX7_behindWorths_78 rfl hl (by decide) rfl (fun ls hl => ?_)
    refine lv_iload_n X.1 X.2.1 dX7_behindWorths_79 rfl (lv_at hl 0 rfl) ?_
    refine rz_eq (tgt := 90) X (by omega) dX7_behindWorths_80 (by decide) (fun _ => ?_) (fun c40 => absurd c40 (fun q => q (by decide)))
    refine ri_const X (v := (-1)) dX7_behindWorths_90 ?_
    exact rt_i X hr hlk I rfl (by first | (exfalso; omega) | exact (⟨by unfold bWor; first | rw [if_pos (by omega)] | rw [if_neg (by omega)], rfl⟩)) dX7_behindWorths_91

theorem ok_X7_behindItem : yX7_behindItem.cls ≠ "java/lang/invoke/MethodHandle" ∧ yX7_behindItem.cls ≠ "java/lang/invoke/VarHandle" ∧ (parseMethodDescriptor yX7_behindItem.desc).map (fun d => d.parameters.length) = some 1 := ⟨by decide +kernel, by decide +kernel, by decide +kernel⟩
abbrev po_X7_behindItem (S : St)  (x : Int) : Int → St → Prop := fun r S1 => r = bItm (txat S) x ∧ S1 = S
abbrev rm_X7_behindItem : Room := ({ frames := 4, cells := 0, slots := 0, locals := 87 } : Room)
set_option maxRecDepth 100000 in
set_option maxHeartbeats 4000000 in
theorem k_X7_behindItem (l : Launch) (G : Ge) (S : St)  (x : Int) (hx : -1000 ≤ x ∧ x ≤ 1000) (ht : 0 ≤ S.1 50 0 ∧ S.1 50 0 ≤ 200) (hc : ∀ i : Int, 0 ≤ i → i < S.1 50 0 → 32 ≤ S.1 0 i ∧ S.1 0 i ≤ 126) : Ki (KC G) l yX7_behindItem cX7_behindItem 2 .int rm_X7_behindItem [.ref (G.2.2 1), .int (iI x)] S (po_X7_behindItem S x) := by
  refine K_start (own := "NameSeeker$Text") (by decide +kernel) rfl (Nat.le_of_ble_eq_true rfl) ?_
  intro p e s m args below meth c X hr hlk I ls hl
  have hl : lv_has ls 2 [(0, .ref (G.2.2 1)), (1, .int (iI x))] := hl
  refine lv_aload_n X.1 X.2.1 dX7_behindItem_0 rfl (lv_at hl 0 rfl) ?_
  refine lv_iload_n X.1 X.2.1 dX7_behindItem_1 rfl (lv_at hl 1 rfl) ?_
  refine cl_i I (runV (As := [.int (iI x)]) (rest := []) X (k_X7_at l G S  x (by omega) ht hc) (gdC tb_339 (gdC tb_332 (gdC tb_333 (gdC tb_35 (gdC tb_334 gdB))))) ⟨ok_X7_at, ⟨Nat.le_of_ble_eq_true rfl, Nat.le_of_ble_eq_true rfl⟩, rfl, rfl⟩ (PreV.of (C := RX7) (T := TX7) (N := 2) I (atC_text) rfl) rfl hl.1 rfl (Nat.le_of_ble_eq_true rfl) dX7_behindItem_2 ⟨Nat.zero_le _, Nat.zero_le _⟩) (fun r1 S2 H locs q3 I => ?_)
  obtain ⟨e1_, e2_⟩ := q3
  rw [e2_] at I
  rw [e1_]
  clear e1_ e2_
  have t4 := txat_r ht hc x
  refine ri_push X (v := 115) (by decide) dX7_behindItem_5 ?_
  refine rj_ne (tgt := 16) X (by omega) (by omega) dX7_behindItem_7 (by decide) (fun c5 => ?_) (fun c5 => ?_)
  · skip
    refine lv_aload_n X.1 X.2.1 dX7_behindItem_16 rfl (lv_at hl 0 rfl) ?_
    refine lv_iload_n X.1 X.2.1 dX7_behindItem_17 rfl (lv_at hl 1 rfl) ?_
    refine cl_i I (runV (As := [.int (iI x)]) (rest := []) X (k_X7_at l G S  x (by omega) ht hc) (gdC tb_339 (gdC tb_332 (gdC tb_333 (gdC tb_35 (gdC tb_334 gdB))))) ⟨ok_X7_at, ⟨Nat.le_of_ble_eq_true rfl, Nat.le_of_ble_eq_true rfl⟩, rfl, rfl⟩ (PreV.of (C := RX7) (T := TX7) (N := 2) I (atC_text) rfl) rfl hl.1 rfl (Nat.le_of_ble_eq_true rfl) dX7_behindItem_18 ⟨Nat.zero_le _, Nat.zero_le _⟩) (fun r6 S7 H locs q8 I => ?_)
    obtain ⟨e1_, e2_⟩ := q8
    rw [e2_] at I
    rw [e1_]
    clear e1_ e2_
    have t9 := txat_r ht hc x
    refine ri_push X (v := 119) (by decide) dX7_behindItem_21 ?_
    refine rj_ne (tgt := 34) X (by omega) (by omega) dX7_behindItem_23 (by decide) (fun c10 => ?_) (fun c10 => ?_)
    · skip
      refine ri_const X (v := (-1)) dX7_behindItem_34 ?_
      exact rt_i X hr hlk I rfl (by first | (exfalso; omega) | exact (⟨by unfold bItm; first | rw [if_pos (by omega)] | rw [if_neg (by omega), if_pos (by omega)] | rw [if_neg (by omega), if_neg (by omega)], rfl⟩)) dX7_behindItem_35
    · skip
      refine lv_aload_n X.1 X.2.1 dX7_behindItem_26 rfl (lv_at hl 0 rfl) ?_
      refine lv_iload_n X.1 X.2.1 dX7_behindItem_27 rfl (lv_at hl 1 rfl) ?_
      refine cl_i I (runV (As := [.int (iI x)]) (rest := []) X (k_X7_behindWorths l G S  x (by omega) ht hc) (gdC tb_389 (gdC tb_391 (gdC tb_5 (gdC tb_35 (gdC tb_392 gdB))))) ⟨ok_X7_behindWorths, ⟨Nat.le_of_ble_eq_true rfl, Nat.le_of_ble_eq_true rfl⟩, rfl, rfl⟩ (PreV.of (C := RX7) (T := TX7) (N := 2) I (atC_text) rfl) rfl hl.1 rfl (Nat.le_of_ble_eq_true rfl) dX7_behindItem_28 ⟨Nat.zero_le _, Nat.zero_le _⟩) (fun r11 S12 H locs q13 I => ?_)
      obtain ⟨e1_, e2_⟩ := q13
      rw [e2_] at I
      rw [e1_]
      clear e1_ e2_
      refine lv_goto (tgt := 35) X.1 X.2.1 dX7_behindItem_31 (by decide) ?_
      exact rt_i X hr hlk I rfl (by first | (exfalso; omega) | exact (⟨by unfold bItm; first | rw [if_pos (by omega)] | rw [if_neg (by omega), if_pos (by omega)] | rw [if_neg (by omega), if_neg (by omega)], rfl⟩)) dX7_behindItem_35
  · skip
    refine lv_aload_n X.1 X.2.1 dX7_behindItem_10 rfl (lv_at hl 0 rfl) ?_
    refine lv_iload_n X.1 X.2.1 dX7_behindItem_11 rfl (lv_at hl 1 rfl) ?_
    refine cl_i I (runV (As := [.int (iI x)]) (rest := []) X (k_X7_behindName l G S  x (by omega) ht hc) (gdC tb_379 (gdC tb_381 (gdC tb_3 (gdC tb_35 (gdC tb_382 gdB))))) ⟨ok_X7_behindName, ⟨Nat.le_of_ble_eq_true rfl, Nat.le_of_ble_eq_true rfl⟩, rfl, rfl⟩ (PreV.of (C := RX7) (T := TX7) (N := 2) I (atC_text) rfl) rfl hl.1 rfl (Nat.le_of_ble_eq_true rfl) dX7_behindItem_12 ⟨Nat.zero_le _, Nat.zero_le _⟩) (fun r14 S15 H locs q16 I => ?_)
    obtain ⟨e1_, e2_⟩ := q16
    rw [e2_] at I
    rw [e1_]
    clear e1_ e2_
    have t17 := bNam_r ht x
    exact rt_i X hr hlk I rfl (by first | (exfalso; omega) | exact (⟨by unfold bItm; first | rw [if_pos (by omega)] | rw [if_neg (by omega), if_pos (by omega)] | rw [if_neg (by omega), if_neg (by omega)], rfl⟩)) dX7_behindItem_15

theorem ok_X7_firstFault : yX7_firstFault.cls ≠ "java/lang/invoke/MethodHandle" ∧ yX7_firstFault.cls ≠ "java/lang/invoke/VarHandle" ∧ (parseMethodDescriptor yX7_firstFault.desc).map (fun d => d.parameters.length) = some 0 := ⟨by decide +kernel, by decide +kernel, by decide +kernel⟩
abbrev po_X7_firstFault (S : St)   : Int → St → Prop := fun r S1 => r = flt (txat S) (S.1 50 0) 200 0 0 ∧ S1 = S
abbrev rm_X7_firstFault : Room := ({ frames := 5, cells := 0, slots := 0, locals := 108 } : Room)
set_option maxRecDepth 100000 in
set_option maxHeartbeats 4000000 in
theorem k_X7_firstFault (l : Launch) (G : Ge) (S : St)   (ht : 0 ≤ S.1 50 0 ∧ S.1 50 0 ≤ 200) (hc : ∀ i : Int, 0 ≤ i → i < S.1 50 0 → 32 ≤ S.1 0 i ∧ S.1 0 i ≤ 126) : Ki (KC G) l yX7_firstFault cX7_firstFault 5 .int rm_X7_firstFault [.ref (G.2.2 1)] S (po_X7_firstFault S) := by
  refine K_start (own := "NameSeeker$Text") (by decide +kernel) rfl (Nat.le_of_ble_eq_true rfl) ?_
  intro p e s m args below meth c X hr hlk I ls hl
  have hl : lv_has ls 5 [(0, .ref (G.2.2 1))] := hl
  refine ri_const X (v := 0) dX7_firstFault_0 ?_
  refine lv_istore_n (lv' := [(1, .int (iI 0)), (0, .ref (G.2.2 1))]) X.1 X.2.1 dX7_firstFault_1 rfl hl (by decide) rfl (fun ls hl => ?_)
  refine ri_const X (v := 0) dX7_firstFault_2 ?_
  refine lv_istore_n (lv' := [(2, .int (iI 0)), (1, .int (iI 0)), (0, .ref (G.2.2 1))]) X.1 X.2.1 dX7_firstFault_3 rfl hl (by decide) rfl (fun ls hl => ?_)
  refine ri_const X (v := 0) dX7_firstFault_4 ?_
  refine lv_istore_n (lv' := [(3, .int (iI 0)), (2, .int (iI 0)), (1, .int (iI 0)), (0, .ref (G.2.2 1))]) X.1 X.2.1 dX7_firstFault_5 rfl hl (by decide) rfl (fun ls hl => ?_)
  have lp_6 : ∀ (n_ : Nat) (i : Int) (a : Int) (n : Int), (200 - i).toNat < n_ → ∀ (hi : 0 ≤ i ∧ i ≤ 200 ∧ i ≤ a ∧ a ≤ S.1 50 0 ∧ 0 ≤ n ∧ n ≤ i) (hI : flt (txat S) (S.1 50 0) (200 - i).toNat a n = flt (txat S) (S.1 50 0) 200 0 0) (H : Heap) (locs : List Loc), In (KC G) s s.heap H locs S → ∀ ls : Array Slot, lv_has ls 5 [(0, .ref (G.2.2 1)), (1, .int (iI a)), (2, .int (iI n)), (3, .int (iI i))] → W p l e rm_X7_firstFault s m args below meth c H locs 0 0 (MQ below (QI (KC G) (po_X7_firstFault S)) args s 0 0 (KC G).2.2.2) (F0 m 6 ls []) := by
    intro n_
    induction n_ with
    | zero => intro i a n hm; exact absurd hm (by omega)
    | succ n_ ih_6 =>
      intro i a n hm_6 hi hI H locs I ls hl
      refine lv_iload_n X.1 X.2.1 dX7_firstFault_6 rfl (lv_at hl 3 rfl) ?_
      refine ri_spush X (v := 200) (by decide) dX7_firstFault_7 ?_
      refine rj_ge (tgt := 64) X (by omega) (by omega) dX7_firstFault_10 (by decide) (fun c1 => ?_) (fun c1 => ?_)
      · skip
        refine ri_push X (v := (-4)) (by decide) dX7_firstFault_64 ?_
        exact rt_i X hr hlk I rfl (by first | (exfalso; omega) | exact (⟨by rw [← hI]; first | rw [flt_end (by omega)] | rw [flt_bad (by omega) (by omega) (by omega)], rfl⟩)) dX7_firstFault_66
      · skip
        refine lv_iload_n X.1 X.2.1 dX7_firstFault_13 rfl (lv_at hl 1 rfl) ?_
        refine lv_aload_n X.1 X.2.1 dX7_firstFault_14 rfl (lv_at hl 0 rfl) ?_
        refine gC_text_size X I (v := (S.1 50 0)) rfl tb_66 dX7_firstFault_15 ?_
        refine rj_ge (tgt := 64) X (by omega) (by omega) dX7_firstFault_18 (by decide) (fun c2 => ?_) (fun c2 => ?_)
        · skip
          refine ri_push X (v := (-4)) (by decide) dX7_firstFault_64 ?_
          exact rt_i X hr hlk I rfl (by first | (exfalso; omega) | exact (⟨by rw [← hI]; first | rw [flt_end (by omega)] | rw [flt_bad (by omega) (by omega) (by omega)], rfl⟩)) dX7_firstFault_66
        · skip
          refine lv_aload_n X.1 X.2.1 dX7_firstFault_21 rfl (lv_at hl 0 rfl) ?_
          refine lv_iload_n X.1 X.2.1 dX7_firstFault_22 rfl (lv_at hl 1 rfl) ?_
          refine cl_i I (runV (As := [.int (iI a)]) (rest := []) X (k_X7_behindItem l G S  a (by omega) ht hc) (gdC tb_461 (gdC tb_376 (gdC tb_377 (gdC tb_35 (gdC tb_378 gdB))))) ⟨ok_X7_behindItem, ⟨Nat.le_of_ble_eq_true rfl, Nat.le_of_ble_eq_true rfl⟩, rfl, rfl⟩ (PreV.of (C := RX7) (T := TX7) (N := 2) I (atC_text) rfl) rfl hl.1 rfl (Nat.le_of_ble_eq_true rfl) dX7_firstFault_23 ⟨Nat.zero_le _, Nat.zero_le _⟩) (fun r3 S4 H locs q5 I => ?_)
          obtain ⟨e1_, e2_⟩ := q5
          rw [e2_] at I
          rw [e1_]
          clear e1_ e2_
          have t6 := bItm_r ht a
          refine lv_istore (lv' := [(4, .int (iI (bItm (txat S) a))), (0, .ref (G.2.2 1)), (1, .int (iI a)), (2, .int (iI n)), (3, .int (iI i))]) X.1 X.2.1 dX7_firstFault_26 hl (by decide) rfl (fun ls hl => ?_)
          refine lv_aload_n X.1 X.2.1 dX7_firstFault_28 rfl (lv_at hl 1 rfl) ?_
          refine lv_iload_n X.1 X.2.1 dX7_firstFault_29 rfl (lv_at hl 2 rfl) ?_
          refine cl_i I (runV (As := [.int (iI a)]) (rest := []) X (k_X7_at l G S  a (by omega) ht hc) (gdC tb_339 (gdC tb_332 (gdC tb_333 (gdC tb_35 (gdC tb_334 gdB))))) ⟨ok_X7_at, ⟨Nat.le_of_ble_eq_true rfl, Nat.le_of_ble_eq_true rfl⟩, rfl, rfl⟩ (PreV.of (C := RX7) (T := TX7) (N := 2) I (atC_text) rfl) rfl hl.1 rfl (Nat.le_of_ble_eq_true rfl) dX7_firstFault_30 ⟨Nat.zero_le _, Nat.zero_le _⟩) (fun r7 S8 H locs q9 I => ?_)
          obtain ⟨e1_, e2_⟩ := q9
          rw [e2_] at I
          rw [e1_]
          clear e1_ e2_
          have t10 := txat_r ht hc a
          refine ri_push X (v := 115) (by decide) dX7_firstFault_33 ?_
          refine rj_ne (tgt := 41) X (by omega) (by omega) dX7_firstFault_35 (by decide) (fun c11 => ?_) (fun c11 => ?_)
          · skip
            refine lv_iload X.1 X.2.1 dX7_firstFault_41 (lv_at hl 0 rfl) ?_
            refine ri_const X (v := (-1)) dX7_firstFault_43 ?_
            refine rj_eq (tgt := 53) X (by omega) (by omega) dX7_firstFault_44 (by decide) (fun c12 => ?_) (fun c12 => ?_)
            · skip
              refine lv_iload_n X.1 X.2.1 dX7_firstFault_53 rfl (lv_at hl 2 rfl) ?_
              exact rt_i X hr hlk I rfl (by first | (exfalso; omega) | exact (⟨by rw [← hI]; first | rw [flt_end (by omega)] | rw [flt_bad (by omega) (by omega) (by omega)], rfl⟩)) dX7_firstFault_54
            · skip
              refine lv_iload_n X.1 X.2.1 dX7_firstFault_47 rfl (lv_at hl 3 rfl) ?_
              refine ri_push X (v := 8) (by decide) dX7_firstFault_48 ?_
              refine rj_le (tgt := 55) X (by omega) (by omega) dX7_firstFault_50 (by decide) (fun c13 => ?_) (fun c13 => ?_)
              · skip
                refine lv_iload X.1 X.2.1 dX7_firstFault_55 (lv_at hl 0 rfl) ?_
                refine lv_istore_n (lv' := [(1, .int (iI (bItm (txat S) a))), (4, .int (iI (bItm (txat S) a))), (0, .ref (G.2.2 1)), (2, .int (iI n)), (3, .int (iI i))]) X.1 X.2.1 dX7_firstFault_57 rfl hl (by decide) rfl (fun ls hl => ?_)
                refine ri_iinc X (k := 4) (v := (i + 1)) (lv' := [(3, .int (iI (i + 1))), (1, .int (iI (bItm (txat S) a))), (4, .int (iI (bItm (txat S) a))), (0, .ref (G.2.2 1)), (2, .int (iI n))]) rfl dX7_firstFault_58 hl rfl (by decide) rfl (fun ls hl => ?_)
                refine lv_goto (tgt := 6) X.1 X.2.1 dX7_firstFault_61 (by decide) ?_
                exact ih_6 (i + 1) (bItm (txat S) a) n (by omega) (by omega) (by rw [← hI]; exact (flt_go (by omega) (by omega) (by omega)).symm) _ _ I ls (lv_sub hl [3, 1, 4, 0] rfl)
              · skip
                refine lv_iload_n X.1 X.2.1 dX7_firstFault_53 rfl (lv_at hl 2 rfl) ?_
                exact rt_i X hr hlk I rfl (by first | (exfalso; omega) | exact (⟨by rw [← hI]; first | rw [flt_end (by omega)] | rw [flt_bad (by omega) (by omega) (by omega)], rfl⟩)) dX7_firstFault_54
          · skip
            refine ri_iinc X (k := 3) (v := (n + 1)) (lv' := [(2, .int (iI (n + 1))), (4, .int (iI (bItm (txat S) a))), (0, .ref (G.2.2 1)), (1, .int (iI a)), (3, .int (iI i))]) rfl dX7_firstFault_38 hl rfl (by decide) rfl (fun ls hl => ?_)
            refine lv_iload X.1 X.2.1 dX7_firstFault_41 (lv_at hl 1 rfl) ?_
            refine ri_const X (v := (-1)) dX7_firstFault_43 ?_
            refine rj_eq (tgt := 53) X (by omega) (by omega) dX7_firstFault_44 (by decide) (fun c14 => ?_) (fun c14 => ?_)
            · skip
              refine lv_iload_n X.1 X.2.1 dX7_firstFault_53 rfl (lv_at hl 3 rfl) ?_
              exact rt_i X hr hlk I rfl (by first | (exfalso; omega) | exact (⟨by rw [← hI]; first | rw [flt_end (by omega)] | rw [flt_bad (by omega) (by omega) (by omega)], rfl⟩)) dX7_firstFault_54
            · skip
              refine lv_iload_n X.1 X.2.1 dX7_firstFault_47 rfl (lv_at hl 0 rfl) ?_
              refine ri_push X (v := 8) (by decide) dX7_firstFault_48 ?_
              refine rj_le (tgt := 55) X (by omega) (by omega) dX7_firstFault_50 (by decide) (fun c15 => ?_) (fun c15 => ?_)
              · skip
                refine lv_iload X.1 X.2.1 dX7_firstFault_55 (lv_at hl 1 rfl) ?_
                refine lv_istore_n (lv' := [(1, .int (iI (bItm (txat S) a))), (2, .int (iI (n + 1))), (4, .int (iI (bItm (txat S) a))), (0, .ref (G.2.2 1)), (3, .int (iI i))]) X.1 X.2.1 dX7_firstFault_57 rfl hl (by decide) rfl (fun ls hl => ?_)
                refine ri_iinc X (k := 4) (v := (i + 1)) (lv' := [(3, .int (iI (i + 1))), (1, .int (iI (bItm (txat S) a))), (2, .int (iI (n + 1))), (4, .int (iI (bItm (txat S) a))), (0, .ref (G.2.2 1))]) rfl dX7_firstFault_58 hl rfl (by decide) rfl (fun ls hl => ?_)
                refine lv_goto (tgt := 6) X.1 X.2.1 dX7_firstFault_61 (by decide) ?_
                exact ih_6 (i + 1) (bItm (txat S) a) (n + 1) (by omega) (by omega) (by rw [← hI]; exact (flt_go (by omega) (by omega) (by omega)).symm) _ _ I ls (lv_sub hl [4, 1, 2, 0] rfl)
              · skip
                refine lv_iload_n X.1 X.2.1 dX7_firstFault_53 rfl (lv_at hl 3 rfl) ?_
                exact rt_i X hr hlk I rfl (by first | (exfalso; omega) | exact (⟨by rw [← hI]; first | rw [flt_end (by omega)] | rw [flt_bad (by omega) (by omega) (by omega)], rfl⟩)) dX7_firstFault_54
  exact lp_6 (201) 0 0 0 (by omega) (by omega) (by simp) _ _ I ls (lv_sub hl [3, 2, 1, 0] rfl)

theorem ok_X7_hasName : yX7_hasName.cls ≠ "java/lang/invoke/MethodHandle" ∧ yX7_hasName.cls ≠ "java/lang/invoke/VarHandle" ∧ (parseMethodDescriptor yX7_hasName.desc).map (fun d => d.parameters.length) = some 0 := ⟨by decide +kernel, by decide +kernel, by decide +kernel⟩
abbrev po_X7_hasName (S : St)   : Int → St → Prop := fun r S1 => r = bI (hasS (S.1 0) (S.1 50 0).toNat = true) ∧ S1 = S
abbrev rm_X7_hasName : Room := ({ frames := 0, cells := 0, slots := 0, locals := 0 } : Room)
set_option maxRecDepth 100000 in
set_option maxHeartbeats 4000000 in
theorem k_X7_hasName (l : Launch) (G : Ge) (S : St)   (ht : 0 ≤ S.1 50 0 ∧ S.1 50 0 ≤ 200) (hc : ∀ i : Int, 0 ≤ i → i < S.1 50 0 → 32 ≤ S.1 0 i ∧ S.1 0 i ≤ 126) : Ki (KC G) l yX7_hasName cX7_hasName 2 .boolean rm_X7_hasName [.ref (G.2.2 1)] S (po_X7_hasName S) := by
  refine K_start (own := "NameSeeker$Text") (by decide +kernel) rfl (Nat.le_of_ble_eq_true rfl) ?_
  intro p e s m args below meth c X hr hlk I ls hl
  have hl : lv_has ls 2 [(0, .ref (G.2.2 1))] := hl
  refine ri_const X (v := 0) dX7_hasName_0 ?_
  refine lv_istore_n (lv' := [(1, .int (iI 0)), (0, .ref (G.2.2 1))]) X.1 X.2.1 dX7_hasName_1 rfl hl (by decide) rfl (fun ls hl => ?_)
  have lp_2 : ∀ (n_ : Nat) (k : Int), (200 - k).toNat < n_ → ∀ (hk : 0 ≤ k ∧ k ≤ S.1 50 0) (hI : hasS (S.1 0) k.toNat = false) (H : Heap) (locs : List Loc), In (KC G) s s.heap H locs S → ∀ ls : Array Slot, lv_has ls 2 [(0, .ref (G.2.2 1)), (1, .int (iI k))] → W p l e rm_X7_hasName s m args below meth c H locs 0 0 (MQ below (QI (KC G) (po_X7_hasName S)) args s 0 0 (KC G).2.2.2) (F0 m 2 ls []) := by
    intro n_
    induction n_ with
    | zero => intro k hm; exact absurd hm (by omega)
    | succ n_ ih_2 =>
      intro k hm_2 hk hI H locs I ls hl
      refine lv_iload_n X.1 X.2.1 dX7_hasName_2 rfl (lv_at hl 1 rfl) ?_
      refine lv_aload_n X.1 X.2.1 dX7_hasName_3 rfl (lv_at hl 0 rfl) ?_
      refine gC_text_size X I (v := (S.1 50 0)) rfl tb_66 dX7_hasName_4 ?_
      refine rj_ge (tgt := 29) X (by omega) (by omega) dX7_hasName_7 (by decide) (fun c1 => ?_) (fun c1 => ?_)
      · skip
        refine ri_const X (v := 0) dX7_hasName_29 ?_
        exact rt_i X hr hlk I (by rfl) (by first | (exfalso; omega) | exact (⟨(bI_f (by rw [show (S.1 50 0).toNat = k.toNat by omega, hI]; decide)).symm, rfl⟩)) dX7_hasName_30
      · skip
        have hck := hc k (by omega) (by omega)
        refine lv_aload_n X.1 X.2.1 dX7_hasName_10 rfl (lv_at hl 0 rfl) ?_
        refine gC_text_letters X I tb_65 dX7_hasName_11 ?_
        refine lv_iload_n X.1 X.2.1 dX7_hasName_14 rfl (lv_at hl 1 rfl) ?_
        refine aC_text X I (v := (S.1 0 k)) rfl (by omega) dX7_hasName_15 ?_
        refine ri_push X (v := 115) (by decide) dX7_hasName_16 ?_
        refine rj_ne (tgt := 23) X (by omega) (by omega) dX7_hasName_18 (by decide) (fun c2 => ?_) (fun c2 => ?_)
        · skip
          refine ri_iinc X (k := 1) (v := (k + 1)) (lv' := [(1, .int (iI (k + 1))), (0, .ref (G.2.2 1))]) rfl dX7_hasName_23 hl rfl (by decide) rfl (fun ls hl => ?_)
          refine lv_goto (tgt := 2) X.1 X.2.1 dX7_hasName_26 (by decide) ?_
          exact ih_2 (k + 1) (by omega) (by omega) (hasS_no (by omega) hI (by omega)) _ _ I ls (lv_sub hl [1, 0] rfl)
        · skip
          refine ri_const X (v := 1) dX7_hasName_21 ?_
          exact rt_i X hr hlk I (by rfl) (by first | (exfalso; omega) | exact (⟨(bI_t (hasS_of (k := k) (by omega) (by omega))).symm, rfl⟩)) dX7_hasName_22
  exact lp_2 (201) 0 (by omega) (by omega) (rfl) _ _ I ls (lv_sub hl [1, 0] rfl)

theorem ok_X7_append : yX7_append.cls ≠ "java/lang/invoke/MethodHandle" ∧ yX7_append.cls ≠ "java/lang/invoke/VarHandle" ∧ (parseMethodDescriptor yX7_append.desc).map (fun d => d.parameters.length) = some 1 := ⟨by decide +kernel, by decide +kernel, by decide +kernel⟩
abbrev po_X7_append (S : St)  (x : Int) : St → Prop := fun S1 => S1 = (us (ua S.1 0 (S.1 50 0) x) 50 (S.1 50 0 + 1), S.2)
abbrev rm_X7_append : Room := ({ frames := 0, cells := 0, slots := 0, locals := 0 } : Room)
set_option maxRecDepth 100000 in
set_option maxHeartbeats 4000000 in
theorem k_X7_append (l : Launch) (G : Ge) (S : St)  (x : Int) (hx : 0 ≤ x ∧ x < 65536) (ht : 0 ≤ S.1 50 0 ∧ S.1 50 0 < 200) : Kv (KC G) l yX7_append cX7_append 2 rm_X7_append [.ref (G.2.2 1), .int (iI x)] S (po_X7_append S x) := by
  refine K_start (own := "NameSeeker$Text") (by decide +kernel) rfl (Nat.le_of_ble_eq_true rfl) ?_
  intro p e s m args below meth c X hr hlk I ls hl
  have hl : lv_has ls 2 [(0, .ref (G.2.2 1)), (1, .int (iI x))] := hl
  refine lv_aload_n X.1 X.2.1 dX7_append_0 rfl (lv_at hl 0 rfl) ?_
  refine gC_text_size X I (v := (S.1 50 0)) rfl tb_66 dX7_append_1 ?_
  refine ri_spush X (v := 200) (by decide) dX7_append_4 ?_
  refine rj_ge (tgt := 30) X (by omega) (by omega) dX7_append_7 (by decide) (fun c1 => absurd c1 (by omega)) (fun _ => ?_)
  refine lv_aload_n X.1 X.2.1 dX7_append_10 rfl (lv_at hl 0 rfl) ?_
  refine gC_text_letters X I tb_65 dX7_append_11 ?_
  refine lv_aload_n X.1 X.2.1 dX7_append_14 rfl (lv_at hl 0 rfl) ?_
  refine gC_text_size X I (v := (S.1 50 0)) rfl tb_66 dX7_append_15 ?_
  refine lv_iload_n X.1 X.2.1 dX7_append_18 rfl (lv_at hl 1 rfl) ?_
  refine qC_text X I (by omega) (by omega) dX7_append_19 (fun H locs I => ?_)
  have I : In (KC G) s s.heap H locs ((ua S.1 0 (S.1 50 0) x), S.2) := I
  refine lv_aload_n X.1 X.2.1 dX7_append_20 rfl (lv_at hl 0 rfl) ?_
  refine lv_dup X.1 X.2.1 dX7_append_21 rfl ?_
  refine gC_text_size X I (v := (S.1 50 0)) (by first | rfl | (simp [us_at, ua_at]; done) | (simp only [us_at, ua_at]; repeat' (first | rw [if_neg (by omega)] | rw [if_pos (by omega)]); done)) tb_66 dX7_append_22 ?_
  refine ri_const X (v := 1) dX7_append_25 ?_
  refine ri_add X (v := ((S.1 50 0) + 1)) rfl dX7_append_26 ?_
  refine pC_text_size X I tb_66 dX7_append_27 (fun H locs I => ?_)
  have I : In (KC G) s s.heap H locs ((us (ua S.1 0 (S.1 50 0) x) 50 ((S.1 50 0) + 1)), S.2) := I
  exact rt_v X hr hlk I (by first | (exfalso; omega) | exact (rfl)) dX7_append_30

theorem ok_X7_clear : yX7_clear.cls ≠ "java/lang/invoke/MethodHandle" ∧ yX7_clear.cls ≠ "java/lang/invoke/VarHandle" ∧ (parseMethodDescriptor yX7_clear.desc).map (fun d => d.parameters.length) = some 0 := ⟨by decide +kernel, by decide +kernel, by decide +kernel⟩
abbrev po_X7_clear (S : St)   : Int → St → Prop := fun r S1 => r = S.1 50 0 ∧ S1 = (us S.1 50 0, S.2)
abbrev rm_X7_clear : Room := ({ frames := 0, cells := 0, slots := 0, locals := 0 } : Room)
set_option maxRecDepth 100000 in
set_option maxHeartbeats 4000000 in
theorem k_X7_clear (l : Launch) (G : Ge) (S : St)    : Ki (KC G) l yX7_clear cX7_clear 2 .int rm_X7_clear [.ref (G.2.2 1)] S (po_X7_clear S) := by
  refine K_start (own := "NameSeeker$Text") (by decide +kernel) rfl (Nat.le_of_ble_eq_true rfl) ?_
  intro p e s m args below meth c X hr hlk I ls hl
  have hl : lv_has ls 2 [(0, .ref (G.2.2 1))] := hl
  refine lv_aload_n X.1 X.2.1 dX7_clear_0 rfl (lv_at hl 0 rfl) ?_
  refine gC_text_size X I (v := (S.1 50 0)) rfl tb_66 dX7_clear_1 ?_
  refine lv_istore_n (lv' := [(1, .int (iI (S.1 50 0))), (0, .ref (G.2.2 1))]) X.1 X.2.1 dX7_clear_4 rfl hl (by decide) rfl (fun ls hl => ?_)
  refine lv_aload_n X.1 X.2.1 dX7_clear_5 rfl (lv_at hl 1 rfl) ?_
  refine ri_const X (v := 0) dX7_clear_6 ?_
  refine pC_text_size X I tb_66 dX7_clear_7 (fun H locs I => ?_)
  have I : In (KC G) s s.heap H locs ((us S.1 50 0), S.2) := I
  refine lv_iload_n X.1 X.2.1 dX7_clear_10 rfl (lv_at hl 0 rfl) ?_
  exact rt_i X hr hlk I rfl (by first | (exfalso; omega) | exact (⟨rfl, rfl⟩)) dX7_clear_11
end
