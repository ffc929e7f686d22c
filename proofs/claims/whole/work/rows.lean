section
-- ===== PART A: goes FIRST, ahead of the names: the tables' words, and 'selects' of the private methods out of them =====
/-- a private method of a class that the tables say can be made, by its rows of tables_1 -/
def lw_okq (q : MethodName × Nat) : Prop := (q.1.cls ≠ "java/lang/invoke/MethodHandle" ∧ q.1.cls ≠ "java/lang/invoke/VarHandle") ∧ Cond.instantiable q.1.cls q.2 ∈ tables_1 ∧ Cond.privateMethod q.1 ∈ tables_1 ∧ Cond.instanceMethod q.1 ∈ tables_1
theorem lw_p0 : lw_okq (⟨"CarillonDesk$Reader", "start", "()V"⟩, 16) := ⟨⟨by decide +kernel, by decide +kernel⟩, List.mem_of_getElem? (i := 42) (by decide +kernel), List.mem_of_getElem? (i := 362) (by decide +kernel), List.mem_of_getElem? (i := 363) (by decide +kernel)⟩
theorem lw_p1 : lw_okq (⟨"CarillonDesk$Reader", "nextSign", "()I"⟩, 16) := ⟨⟨by decide +kernel, by decide +kernel⟩, List.mem_of_getElem? (i := 42) (by decide +kernel), List.mem_of_getElem? (i := 371) (by decide +kernel), List.mem_of_getElem? (i := 372) (by decide +kernel)⟩
theorem lw_p2 : lw_okq (⟨"CarillonDesk$Reader", "signHere", "()I"⟩, 16) := ⟨⟨by decide +kernel, by decide +kernel⟩, List.mem_of_getElem? (i := 42) (by decide +kernel), List.mem_of_getElem? (i := 375) (by decide +kernel), List.mem_of_getElem? (i := 376) (by decide +kernel)⟩
theorem lw_p3 : lw_okq (⟨"CarillonDesk$Reader", "openGroup", "()V"⟩, 16) := ⟨⟨by decide +kernel, by decide +kernel⟩, List.mem_of_getElem? (i := 42) (by decide +kernel), List.mem_of_getElem? (i := 382) (by decide +kernel), List.mem_of_getElem? (i := 383) (by decide +kernel)⟩
theorem lw_p4 : lw_okq (⟨"CarillonDesk$Reader", "readNumber", "(II)I"⟩, 16) := ⟨⟨by decide +kernel, by decide +kernel⟩, List.mem_of_getElem? (i := 42) (by decide +kernel), List.mem_of_getElem? (i := 386) (by decide +kernel), List.mem_of_getElem? (i := 387) (by decide +kernel)⟩
theorem lw_p5 : lw_okq (⟨"CarillonDesk$Reader", "fail", "(II)V"⟩, 16) := ⟨⟨by decide +kernel, by decide +kernel⟩, List.mem_of_getElem? (i := 42) (by decide +kernel), List.mem_of_getElem? (i := 390) (by decide +kernel), List.mem_of_getElem? (i := 391) (by decide +kernel)⟩
theorem lw_p6 : lw_okq (⟨"CarillonDesk$Reader", "expect", "(C)V"⟩, 16) := ⟨⟨by decide +kernel, by decide +kernel⟩, List.mem_of_getElem? (i := 42) (by decide +kernel), List.mem_of_getElem? (i := 394) (by decide +kernel), List.mem_of_getElem? (i := 395) (by decide +kernel)⟩
theorem lw_p7 : lw_okq (⟨"CarillonDesk$Reader", "closeGroup", "()V"⟩, 16) := ⟨⟨by decide +kernel, by decide +kernel⟩, List.mem_of_getElem? (i := 42) (by decide +kernel), List.mem_of_getElem? (i := 398) (by decide +kernel), List.mem_of_getElem? (i := 399) (by decide +kernel)⟩
theorem lw_p8 : lw_okq (⟨"CarillonDesk$Reader", "readItem", "(I)V"⟩, 16) := ⟨⟨by decide +kernel, by decide +kernel⟩, List.mem_of_getElem? (i := 42) (by decide +kernel), List.mem_of_getElem? (i := 402) (by decide +kernel), List.mem_of_getElem? (i := 403) (by decide +kernel)⟩
theorem lw_p9 : lw_okq (⟨"CarillonDesk$Reader", "readBell", "()I"⟩, 16) := ⟨⟨by decide +kernel, by decide +kernel⟩, List.mem_of_getElem? (i := 42) (by decide +kernel), List.mem_of_getElem? (i := 406) (by decide +kernel), List.mem_of_getElem? (i := 407) (by decide +kernel)⟩
theorem lw_p10 : lw_okq (⟨"CarillonDesk$Reader", "readChord", "()V"⟩, 16) := ⟨⟨by decide +kernel, by decide +kernel⟩, List.mem_of_getElem? (i := 42) (by decide +kernel), List.mem_of_getElem? (i := 416) (by decide +kernel), List.mem_of_getElem? (i := 417) (by decide +kernel)⟩
theorem lw_p11 : lw_okq (⟨"CarillonDesk$Reader", "readLength", "()V"⟩, 16) := ⟨⟨by decide +kernel, by decide +kernel⟩, List.mem_of_getElem? (i := 42) (by decide +kernel), List.mem_of_getElem? (i := 420) (by decide +kernel), List.mem_of_getElem? (i := 421) (by decide +kernel)⟩
theorem lw_p12 : lw_okq (⟨"CarillonDesk$Reader", "writeItem", "(ZI)V"⟩, 16) := ⟨⟨by decide +kernel, by decide +kernel⟩, List.mem_of_getElem? (i := 42) (by decide +kernel), List.mem_of_getElem? (i := 424) (by decide +kernel), List.mem_of_getElem? (i := 425) (by decide +kernel)⟩
theorem lw_p13 : lw_okq (⟨"CarillonDesk", "theSetting", "()LCarillonDesk$Setting;"⟩, 8) := ⟨⟨by decide +kernel, by decide +kernel⟩, List.mem_of_getElem? (i := 17) (by decide +kernel), List.mem_of_getElem? (i := 455) (by decide +kernel), List.mem_of_getElem? (i := 456) (by decide +kernel)⟩
theorem lw_p14 : lw_okq (⟨"CarillonDesk$Setting", "leastRest", "(II)I"⟩, 8) := ⟨⟨by decide +kernel, by decide +kernel⟩, List.mem_of_getElem? (i := 244) (by decide +kernel), List.mem_of_getElem? (i := 466) (by decide +kernel), List.mem_of_getElem? (i := 467) (by decide +kernel)⟩
theorem lw_p15 : lw_okq (⟨"CarillonDesk$Setting", "costBy", "(IIII)I"⟩, 8) := ⟨⟨by decide +kernel, by decide +kernel⟩, List.mem_of_getElem? (i := 244) (by decide +kernel), List.mem_of_getElem? (i := 473) (by decide +kernel), List.mem_of_getElem? (i := 474) (by decide +kernel)⟩
def lw_privs_1 : List (MethodName × Nat) := [(⟨"CarillonDesk$Reader", "start", "()V"⟩, 16), (⟨"CarillonDesk$Reader", "nextSign", "()I"⟩, 16), (⟨"CarillonDesk$Reader", "signHere", "()I"⟩, 16), (⟨"CarillonDesk$Reader", "openGroup", "()V"⟩, 16), (⟨"CarillonDesk$Reader", "readNumber", "(II)I"⟩, 16), (⟨"CarillonDesk$Reader", "fail", "(II)V"⟩, 16), (⟨"CarillonDesk$Reader", "expect", "(C)V"⟩, 16), (⟨"CarillonDesk$Reader", "closeGroup", "()V"⟩, 16), (⟨"CarillonDesk$Reader", "readItem", "(I)V"⟩, 16), (⟨"CarillonDesk$Reader", "readBell", "()I"⟩, 16), (⟨"CarillonDesk$Reader", "readChord", "()V"⟩, 16), (⟨"CarillonDesk$Reader", "readLength", "()V"⟩, 16), (⟨"CarillonDesk$Reader", "writeItem", "(ZI)V"⟩, 16), (⟨"CarillonDesk", "theSetting", "()LCarillonDesk$Setting;"⟩, 8), (⟨"CarillonDesk$Setting", "leastRest", "(II)I"⟩, 8), (⟨"CarillonDesk$Setting", "costBy", "(IIII)I"⟩, 8)]
theorem lw_r1 : ∀ q ∈ lw_privs_1, lw_okq q := List.forall_mem_cons.mpr ⟨lw_p0, List.forall_mem_cons.mpr ⟨lw_p1, List.forall_mem_cons.mpr ⟨lw_p2, List.forall_mem_cons.mpr ⟨lw_p3, List.forall_mem_cons.mpr ⟨lw_p4, List.forall_mem_cons.mpr ⟨lw_p5, List.forall_mem_cons.mpr ⟨lw_p6, List.forall_mem_cons.mpr ⟨lw_p7, List.forall_mem_cons.mpr ⟨lw_p8, List.forall_mem_cons.mpr ⟨lw_p9, List.forall_mem_cons.mpr ⟨lw_p10, List.forall_mem_cons.mpr ⟨lw_p11, List.forall_mem_cons.mpr ⟨lw_p12, List.forall_mem_cons.mpr ⟨lw_p13, List.forall_mem_cons.mpr ⟨lw_p14, List.forall_mem_cons.mpr ⟨lw_p15, fun _ h => absurd h List.not_mem_nil⟩⟩⟩⟩⟩⟩⟩⟩⟩⟩⟩⟩⟩⟩⟩⟩
theorem lw_p16 : lw_okq (⟨"CarillonDesk$Setting", "moveTo", "(II)I"⟩, 8) := ⟨⟨by decide +kernel, by decide +kernel⟩, List.mem_of_getElem? (i := 244) (by decide +kernel), List.mem_of_getElem? (i := 477) (by decide +kernel), List.mem_of_getElem? (i := 478) (by decide +kernel)⟩
theorem lw_p17 : lw_okq (⟨"CarillonDesk$Setting", "walk", "()V"⟩, 8) := ⟨⟨by decide +kernel, by decide +kernel⟩, List.mem_of_getElem? (i := 244) (by decide +kernel), List.mem_of_getElem? (i := 491) (by decide +kernel), List.mem_of_getElem? (i := 492) (by decide +kernel)⟩
theorem lw_p18 : lw_okq (⟨"CarillonDesk$Need", "handOver", "(II)I"⟩, 2) := ⟨⟨by decide +kernel, by decide +kernel⟩, List.mem_of_getElem? (i := 280) (by decide +kernel), List.mem_of_getElem? (i := 511) (by decide +kernel), List.mem_of_getElem? (i := 512) (by decide +kernel)⟩
theorem lw_p19 : lw_okq (⟨"CarillonDesk$Need", "reachFor", "(II)I"⟩, 2) := ⟨⟨by decide +kernel, by decide +kernel⟩, List.mem_of_getElem? (i := 280) (by decide +kernel), List.mem_of_getElem? (i := 515) (by decide +kernel), List.mem_of_getElem? (i := 516) (by decide +kernel)⟩
theorem lw_p20 : lw_okq (⟨"CarillonDesk$Need", "stay", "(II)V"⟩, 2) := ⟨⟨by decide +kernel, by decide +kernel⟩, List.mem_of_getElem? (i := 280) (by decide +kernel), List.mem_of_getElem? (i := 522) (by decide +kernel), List.mem_of_getElem? (i := 523) (by decide +kernel)⟩
theorem lw_p21 : lw_okq (⟨"CarillonDesk$Tones", "canQuarrel", "(LCarillonDesk$Score;II)Z"⟩, 3) := ⟨⟨by decide +kernel, by decide +kernel⟩, List.mem_of_getElem? (i := 149) (by decide +kernel), List.mem_of_getElem? (i := 558) (by decide +kernel), List.mem_of_getElem? (i := 559) (by decide +kernel)⟩
theorem lw_p22 : lw_okq (⟨"CarillonDesk$Tones", "ticksTogether", "(LCarillonDesk$Score;II)I"⟩, 3) := ⟨⟨by decide +kernel, by decide +kernel⟩, List.mem_of_getElem? (i := 149) (by decide +kernel), List.mem_of_getElem? (i := 563) (by decide +kernel), List.mem_of_getElem? (i := 564) (by decide +kernel)⟩
theorem lw_p23 : lw_okq (⟨"CarillonDeskModel", "next", "()I"⟩, 23) := ⟨⟨by decide +kernel, by decide +kernel⟩, List.mem_of_getElem? (i := 670) (by decide +kernel), List.mem_of_getElem? (i := 768) (by decide +kernel), List.mem_of_getElem? (i := 769) (by decide +kernel)⟩
theorem lw_p24 : lw_okq (⟨"CarillonDeskModel", "group", "()V"⟩, 23) := ⟨⟨by decide +kernel, by decide +kernel⟩, List.mem_of_getElem? (i := 670) (by decide +kernel), List.mem_of_getElem? (i := 775) (by decide +kernel), List.mem_of_getElem? (i := 776) (by decide +kernel)⟩
theorem lw_p25 : lw_okq (⟨"CarillonDeskModel", "number", "(II)I"⟩, 23) := ⟨⟨by decide +kernel, by decide +kernel⟩, List.mem_of_getElem? (i := 670) (by decide +kernel), List.mem_of_getElem? (i := 779) (by decide +kernel), List.mem_of_getElem? (i := 780) (by decide +kernel)⟩
theorem lw_p26 : lw_okq (⟨"CarillonDeskModel", "fail", "(II)V"⟩, 23) := ⟨⟨by decide +kernel, by decide +kernel⟩, List.mem_of_getElem? (i := 670) (by decide +kernel), List.mem_of_getElem? (i := 783) (by decide +kernel), List.mem_of_getElem? (i := 784) (by decide +kernel)⟩
theorem lw_p27 : lw_okq (⟨"CarillonDeskModel", "sign", "(I)V"⟩, 23) := ⟨⟨by decide +kernel, by decide +kernel⟩, List.mem_of_getElem? (i := 670) (by decide +kernel), List.mem_of_getElem? (i := 787) (by decide +kernel), List.mem_of_getElem? (i := 788) (by decide +kernel)⟩
theorem lw_p28 : lw_okq (⟨"CarillonDeskModel", "ends", "()V"⟩, 23) := ⟨⟨by decide +kernel, by decide +kernel⟩, List.mem_of_getElem? (i := 670) (by decide +kernel), List.mem_of_getElem? (i := 791) (by decide +kernel), List.mem_of_getElem? (i := 792) (by decide +kernel)⟩
theorem lw_p29 : lw_okq (⟨"CarillonDeskModel", "item", "()V"⟩, 23) := ⟨⟨by decide +kernel, by decide +kernel⟩, List.mem_of_getElem? (i := 670) (by decide +kernel), List.mem_of_getElem? (i := 795) (by decide +kernel), List.mem_of_getElem? (i := 796) (by decide +kernel)⟩
theorem lw_p30 : lw_okq (⟨"CarillonDeskModel", "length", "(I)I"⟩, 23) := ⟨⟨by decide +kernel, by decide +kernel⟩, List.mem_of_getElem? (i := 670) (by decide +kernel), List.mem_of_getElem? (i := 799) (by decide +kernel), List.mem_of_getElem? (i := 800) (by decide +kernel)⟩
theorem lw_p31 : lw_okq (⟨"CarillonDeskModel", "strikesHere", "(III)V"⟩, 23) := ⟨⟨by decide +kernel, by decide +kernel⟩, List.mem_of_getElem? (i := 670) (by decide +kernel), List.mem_of_getElem? (i := 803) (by decide +kernel), List.mem_of_getElem? (i := 804) (by decide +kernel)⟩
def lw_privs_2 : List (MethodName × Nat) := [(⟨"CarillonDesk$Setting", "moveTo", "(II)I"⟩, 8), (⟨"CarillonDesk$Setting", "walk", "()V"⟩, 8), (⟨"CarillonDesk$Need", "handOver", "(II)I"⟩, 2), (⟨"CarillonDesk$Need", "reachFor", "(II)I"⟩, 2), (⟨"CarillonDesk$Need", "stay", "(II)V"⟩, 2), (⟨"CarillonDesk$Tones", "canQuarrel", "(LCarillonDesk$Score;II)Z"⟩, 3), (⟨"CarillonDesk$Tones", "ticksTogether", "(LCarillonDesk$Score;II)I"⟩, 3), (⟨"CarillonDeskModel", "next", "()I"⟩, 23), (⟨"CarillonDeskModel", "group", "()V"⟩, 23), (⟨"CarillonDeskModel", "number", "(II)I"⟩, 23), (⟨"CarillonDeskModel", "fail", "(II)V"⟩, 23), (⟨"CarillonDeskModel", "sign", "(I)V"⟩, 23), (⟨"CarillonDeskModel", "ends", "()V"⟩, 23), (⟨"CarillonDeskModel", "item", "()V"⟩, 23), (⟨"CarillonDeskModel", "length", "(I)I"⟩, 23), (⟨"CarillonDeskModel", "strikesHere", "(III)V"⟩, 23)]
theorem lw_r2 : ∀ q ∈ lw_privs_2, lw_okq q := List.forall_mem_cons.mpr ⟨lw_p16, List.forall_mem_cons.mpr ⟨lw_p17, List.forall_mem_cons.mpr ⟨lw_p18, List.forall_mem_cons.mpr ⟨lw_p19, List.forall_mem_cons.mpr ⟨lw_p20, List.forall_mem_cons.mpr ⟨lw_p21, List.forall_mem_cons.mpr ⟨lw_p22, List.forall_mem_cons.mpr ⟨lw_p23, List.forall_mem_cons.mpr ⟨lw_p24, List.forall_mem_cons.mpr ⟨lw_p25, List.forall_mem_cons.mpr ⟨lw_p26, List.forall_mem_cons.mpr ⟨lw_p27, List.forall_mem_cons.mpr ⟨lw_p28, List.forall_mem_cons.mpr ⟨lw_p29, List.forall_mem_cons.mpr ⟨lw_p30, List.forall_mem_cons.mpr ⟨lw_p31, fun _ h => absurd h List.not_mem_nil⟩⟩⟩⟩⟩⟩⟩⟩⟩⟩⟩⟩⟩⟩⟩⟩
theorem lw_p32 : lw_okq (⟨"CarillonDeskModel", "sets", "()I"⟩, 23) := ⟨⟨by decide +kernel, by decide +kernel⟩, List.mem_of_getElem? (i := 670) (by decide +kernel), List.mem_of_getElem? (i := 823) (by decide +kernel), List.mem_of_getElem? (i := 824) (by decide +kernel)⟩
theorem lw_p33 : lw_okq (⟨"CarillonDeskModel", "weighs", "(II)I"⟩, 23) := ⟨⟨by decide +kernel, by decide +kernel⟩, List.mem_of_getElem? (i := 670) (by decide +kernel), List.mem_of_getElem? (i := 827) (by decide +kernel), List.mem_of_getElem? (i := 828) (by decide +kernel)⟩
theorem lw_p34 : lw_okq (⟨"CarillonDeskModel", "place", "(III)I"⟩, 23) := ⟨⟨by decide +kernel, by decide +kernel⟩, List.mem_of_getElem? (i := 670) (by decide +kernel), List.mem_of_getElem? (i := 831) (by decide +kernel), List.mem_of_getElem? (i := 832) (by decide +kernel)⟩
theorem lw_p35 : lw_okq (⟨"CarillonDeskModel", "costOf", "(IIIIII)I"⟩, 23) := ⟨⟨by decide +kernel, by decide +kernel⟩, List.mem_of_getElem? (i := 670) (by decide +kernel), List.mem_of_getElem? (i := 836) (by decide +kernel), List.mem_of_getElem? (i := 837) (by decide +kernel)⟩
theorem lw_p36 : lw_okq (⟨"CarillonDeskModel", "isCrossed", "(II)Z"⟩, 23) := ⟨⟨by decide +kernel, by decide +kernel⟩, List.mem_of_getElem? (i := 670) (by decide +kernel), List.mem_of_getElem? (i := 840) (by decide +kernel), List.mem_of_getElem? (i := 841) (by decide +kernel)⟩
theorem lw_p37 : lw_okq (⟨"CarillonDeskModel", "moves", "(III)I"⟩, 23) := ⟨⟨by decide +kernel, by decide +kernel⟩, List.mem_of_getElem? (i := 670) (by decide +kernel), List.mem_of_getElem? (i := 844) (by decide +kernel), List.mem_of_getElem? (i := 845) (by decide +kernel)⟩
theorem lw_p38 : lw_okq (⟨"CarillonDeskModel", "behind", "(IIII)I"⟩, 23) := ⟨⟨by decide +kernel, by decide +kernel⟩, List.mem_of_getElem? (i := 670) (by decide +kernel), List.mem_of_getElem? (i := 848) (by decide +kernel), List.mem_of_getElem? (i := 849) (by decide +kernel)⟩
theorem lw_p39 : lw_okq (⟨"CarillonDeskModel", "stepOf", "(II)I"⟩, 23) := ⟨⟨by decide +kernel, by decide +kernel⟩, List.mem_of_getElem? (i := 670) (by decide +kernel), List.mem_of_getElem? (i := 896) (by decide +kernel), List.mem_of_getElem? (i := 897) (by decide +kernel)⟩
def lw_privs_3 : List (MethodName × Nat) := [(⟨"CarillonDeskModel", "sets", "()I"⟩, 23), (⟨"CarillonDeskModel", "weighs", "(II)I"⟩, 23), (⟨"CarillonDeskModel", "place", "(III)I"⟩, 23), (⟨"CarillonDeskModel", "costOf", "(IIIIII)I"⟩, 23), (⟨"CarillonDeskModel", "isCrossed", "(II)Z"⟩, 23), (⟨"CarillonDeskModel", "moves", "(III)I"⟩, 23), (⟨"CarillonDeskModel", "behind", "(IIII)I"⟩, 23), (⟨"CarillonDeskModel", "stepOf", "(II)I"⟩, 23)]
theorem lw_r3 : ∀ q ∈ lw_privs_3, lw_okq q := List.forall_mem_cons.mpr ⟨lw_p32, List.forall_mem_cons.mpr ⟨lw_p33, List.forall_mem_cons.mpr ⟨lw_p34, List.forall_mem_cons.mpr ⟨lw_p35, List.forall_mem_cons.mpr ⟨lw_p36, List.forall_mem_cons.mpr ⟨lw_p37, List.forall_mem_cons.mpr ⟨lw_p38, List.forall_mem_cons.mpr ⟨lw_p39, fun _ h => absurd h List.not_mem_nil⟩⟩⟩⟩⟩⟩⟩⟩
def lw_privs : List (MethodName × Nat) := lw_privs_1 ++ (lw_privs_2 ++ (lw_privs_3))
def lw_tbl : List Cond := k2_sels lw_privs ++ tables_1
theorem lw_privs_ok : ∀ q ∈ lw_privs, lw_okq q := by
  show ∀ q ∈ lw_privs_1 ++ (lw_privs_2 ++ (lw_privs_3)), lw_okq q
  exact List.forall_mem_append.mpr ⟨lw_r1, List.forall_mem_append.mpr ⟨lw_r2, lw_r3⟩⟩
-- ===== end of PART A; then your names; then what follows =====
/-! THE CLAIM OUT OF ONE WALK OF THE LAW'S BODY. Your part is whole_start (and what it stands on); all else here is the same for every law, but numbers. -/
def R_law : String := "CarillonDeskLaw"
def lw_P (b : Addr) (xs : List Int32) (args : Array Value) (s : State) : Prop := args = #[.ref b] ∧ s.IntsAt b xs ∧ xs.length ≤ 3072 ∧ (Jvm.Cond.and given_1 narrow_1).before args s = true
def lw_Q (_ : Array Value) (s : State) (o : Outcome) (t : State) : Prop := o = .returned (some (.int 1)) ∧ Framed s o t [] 600000 7302250
def lw_Z (below : List Frame) (a : Array Value) (s : State) : State → Prop := fun t => ∃ o, t.status = .running ∧ Ended t below o ∧ lw_Q a s o t
/-- the law's own end, with 1 on the stack, nothing written that was there before, its room as the claim has it -/
theorem lw_ret {p : Program} {l : Launch} {e : Env} {s : State} {m : MethodId} {below : List Frame} {meth : Method} {c : Code} {b : Nat} (hx : p.tables.exec = Jvm.exec) (hb : c.code = code) (hr : meth.sig.returnType = ret) (hlocks : meth.locks = false) {pc : Nat} {H : Heap} {ls : Array Slot} (hdg : decode code pc = .ok (.ireturn, 1)) : W p l e room_1 s m #[Value.ref b] below meth c H [] 600000 7302250 (lw_Z below #[Value.ref b] s) (F0 m pc ls [.int 1]) := by
  intro T hT X
  obtain ⟨fs, hret, hrun, hended, hW, hframe⟩ := X.leave (v := some (.int 1)) (hlocks := hlocks) (fun h => by rw [hr] at h; cases h)
  have hmeth' : T.vm.method? m = some meth := X.method'
  refine ⟨T.setFrames fs, ?_, .returned (some (.int 1)), hrun, hended, rfl, ⟨_, rfl⟩, hW, hframe⟩
  jvm_step X.here [X.here.top, hx, hb, hdg, hmeth', hr, ret, narrow_b1]
  (try refine ⟨rfl, ?_⟩); (try refine ⟨rfl, ?_⟩)
  first | (intro acts; rw [hret _ acts rfl rfl rfl]) | rw [hret _ _ rfl rfl rfl]
  exact Steps.refl _
/-- what holds at the law's entry: the machine, the code, the tables' words (any of lw_tbl by 'hts w (by decide +kernel)'), the script of L ints xs at the cell b, what the Statement gives of the start (any of its parts by flat_of_before) -/
def lw_At (p : Program) (s : State) (m : MethodId) (meth : Method) (c : Code) (b L : Nat) (xs : Nat → Int32) : Prop :=
  p.tables.exec = Jvm.exec ∧ c.code = code ∧ meth.sig.returnType = ret ∧ c.maxLocals = 4 ∧ s.vm.findClass R_law = some m.cls ∧ (∀ w ∈ lw_tbl, w.before #[Value.ref b] s = true) ∧ va_X b L xs s s.heap ∧ b < s.heap.size ∧ meth.locks = false ∧ (Jvm.Cond.and given_1 narrow_1).before #[Value.ref b] s = true
end
section
/-! ===== BEGIN words of one list among another's, by their places ===== -/
theorem goodIn_r {big : List Cond} (ws : List Cond) (ps : List Nat) (hp : ws = ps.filterMap (fun i => big[i]?)) (h : ws.all goodWord = true) : GoodIn big ws := by
  intro w hw
  have h1 := List.all_eq_true.mp h w hw
  rw [hp] at hw
  obtain ⟨i, -, hi⟩ := List.mem_filterMap.mp hw
  have hm : w ∈ big := by first | exact List.mem_of_getElem? hi | exact List.getElem?_mem hi
  exact ⟨hm, good_of_word h1⟩
theorem goodIn_app {big a b : List Cond} (ha : GoodIn big a) (hb : GoodIn big b) : GoodIn big (a ++ b) := fun w h => (List.mem_append.mp h).elim (ha w) (hb w)
theorem goodIn_ca {big a b : List Cond} {c : Cond} (ha : GoodIn big (c :: a)) (hb : GoodIn big b) : GoodIn big (c :: (a ++ b)) := fun w h => (List.mem_cons.mp h).elim (fun e => ha w (List.mem_cons.mpr (Or.inl e))) (fun h => (List.mem_append.mp h).elim (fun h => ha w (List.mem_cons.mpr (Or.inr h))) (hb w))
theorem goodIn_sub {big ws : List Cond} (hm : ∀ w ∈ ws, w ∈ big) (h : ws.all goodWord = true) : GoodIn big ws := fun w hw => ⟨hm w hw, good_of_word (List.all_eq_true.mp h w hw)⟩
/-! ===== END ===== -/

/-! ===== BEGIN new T[n][m]: the outer array a place, the inner ones among the pooled ===== -/
/-- f, but v at every address of l -/
def vr_up {α : Type} (f : Nat → α) (l : List Nat) (v : α) : Nat → α := fun a => if a ∈ l then v else f a
theorem vr_up_in {α : Type} {f : Nat → α} {l : List Nat} {v : α} {a : Nat} (h : a ∈ l) : vr_up f l v a = v := if_pos h
theorem vr_up_ne {α : Type} {f : Nat → α} {l : List Nat} {v : α} {a : Nat} (h : a ∉ l) : vr_up f l v a = f a := if_neg h
theorem vr_rows {L l : List Nat} {f : Nat → va_E} {e : va_E} (h : ∀ a, a ∈ l → a ∉ L) : va_pl L f ++ l.map (fun a => (a, e)) = va_pl (L ++ l) (vr_up f l e) := by
  unfold va_pl
  rw [List.map_append]
  congr 1
  · apply List.map_congr_left
    intro a ha
    rw [vr_up_ne (fun q => h a q ha)]
  · apply List.map_congr_left
    intro a ha
    rw [vr_up_in ha]
theorem vr_lay {X rows : va_W} {x : Nat × va_E} {pl : va_W} {D : va_G} {cl : List vw_C} {H : Heap} (hP : va_P D cl (((X ++ pl) ++ [x]) ++ rows) H) : va_P D cl ((X ++ [x]) ++ (pl ++ rows)) H := by
  rw [List.append_assoc (X ++ pl)] at hP
  have h := va_P.swap hP
  rw [← List.append_assoc X] at h
  have h2 := va_P.swap h
  rw [List.append_assoc (X ++ [x])] at h2
  exact h2
theorem vr_layD {X rows : va_W} {x : Nat × va_E} {pl : va_W} {A : Nat → Prop} (hD : va_D A (((X ++ pl) ++ [x]) ++ rows)) : va_D A ((X ++ [x]) ++ (pl ++ rows)) := by
  rw [List.append_assoc (X ++ pl)] at hD
  have h := va_D.swap hD
  rw [← List.append_assoc X] at h
  have h2 := va_D.swap h
  rw [List.append_assoc (X ++ [x])] at h2
  exact h2
theorem vr_outer (c : ClassId) (N h0 : Nat) : ∀ i : Nat, Jvm.Free.Multi.outerC c N h0 i = arrV c N (fun j => va_rf (if j < i then some (h0 + 1 + j) else none))
  | 0 => by
    show ({ cls := c, slots := Array.replicate N .null, vm := .none } : Cell) = _
    rw [arrV_new]
    refine congrArg (arrV c N) (funext fun j => ?_)
    simp [va_rf]
  | i + 1 => by
    show (Jvm.Free.Multi.outerC c N h0 i).setSlot i (.ref (h0 + 1 + i)) = _
    rw [vr_outer c N h0 i, arrV_store]
    refine congrArg (arrV c N) (funext fun j => ?_)
    by_cases e : j = i
    · subst e
      simp [updV, va_rf]
    · by_cases h : j < i
      · simp [updV, e, h, Nat.lt_succ_of_lt h]
      · simp [updV, e, h, show ¬ j < i + 1 by omega]
def va_AOA (ty : FieldType) (U : State) : Prop := (Cond.arrayOver (.array ty)).before #[] U = true
theorem va_AOA.use {ty : FieldType} {A : Array Value} {U : State} (h : va_AOA ty U) : (Cond.arrayOver (.array ty)).before A U = true := h
section VGM
variable {p : Program} {l : Launch} {e : Env} {R : Room} {s : State} {m : MethodId} {args : Array Value} {below : List Frame} {meth : Method} {c : Code} {H : Heap} {locs : List Loc} {cells slots : Nat} {Q : State → Prop}
variable {cc : ByteArray} {pc : Nat} {ls : Array Slot} {rest : List Value} {D : va_G} {cl : List vw_C} {A : Nat → Prop} {a : Nat} {tys : List (ClassId × FieldType)} {ws : va_W} {H0 : Heap}
theorem va_mna {X : va_W} {L : List Nat} {f : Nat → va_E} {cc : ByteArray} (hexec : p.tables.exec = Jvm.exec) (hb : c.code = cc) {own : String} {index : Nat} {ty : FieldType} {cy : ClassId} (hown : s.vm.findClass own = some m.cls) (hclink : (Cond.classLink own index ("[" ++ (FieldType.array ty).toString)).before args s = true) (hover : va_AOA ty s) (harr : (Cond.arrayClass ty).before args s = true) (hcy : s.vm.findClass (FieldType.array ty).toString = some cy)
    (hK : va_K D cl tys s) (hP : va_P D cl (X ++ va_pl L f) H) (hD : va_D A (X ++ va_pl L f)) (hS : va_S A H0 H locs) (hA : ∀ q, H0.size ≤ q → A q) {n k : Int32} {N' K' : Nat} {z : vp_A} (hn : ¬ n < 0) (hk : ¬ k < 0) (hN : n.toNatClampNeg = N') (hM : k.toNatClampNeg = K')
    (hb1 : N' * 4 ≤ 536870912) (hb2 : K' * componentBytes ty ≤ 536870912) (hb3 : K' ≤ 536870912) (hdf : fits ty (defaultValue ty) = true) (hdd : (defaultValue ty).isDefault = true) (hcells : cells + (1 + N') ≤ R.cells) (hslots : slots + (N' + N' * K') ≤ R.slots) (hz : ∀ c : ClassId, Jvm.Free.Multi.innerC c K' (defaultValue ty) = vp_cell c z) (hdg : decode cc pc = .ok (.multianewarray index 2, 4))
    (kk : ∀ (q : Nat) (r : Nat → Nat) (cA : ClassId) (H1 : Heap), (∀ i j : Nat, i < N' → j < N' → r i = r j → i = j) → (∀ i : Nat, i < N' → r i ∉ L) → va_K D cl (tys ++ [(cA, .array ty)]) s →
      va_P D cl ((X ++ [(q, .inl (cA, N', .inr (.inr (.inr (.inr (fun i => if i < N' then some (r i) else none))))))]) ++ va_pl (L ++ (List.range N').map r) (vr_up f ((List.range N').map r) (.inl (cy, z)))) H1 → va_D A ((X ++ [(q, .inl (cA, N', .inr (.inr (.inr (.inr (fun i => if i < N' then some (r i) else none))))))]) ++ va_pl (L ++ (List.range N').map r) (vr_up f ((List.range N').map r) (.inl (cy, z)))) → va_S A H0 H1 locs →
      W p l e R s m args below meth c H1 locs (cells + 1 + N') (slots + N' + N' * K') Q (F0 m (pc + 4) ls (.ref q :: rest))) : W p l e R s m args below meth c H locs cells slots Q (F0 m pc ls (.int k :: .int n :: rest)) := by
  subst hN
  subst hM
  intro T hT Xs
  obtain ⟨vm₁, cA, comp, -, fA, fC, hO, -, X', step⟩ := Xs.multianewarray2F hexec hown hclink (va_AOA.use hover) harr (g := F0 m pc ls (.int k :: .int n :: rest)) rfl (by rw [hb]; exact hdg) rfl hn hk hb1 hb2 hb3 hdf hdd hcells hslots
  have ec : some cy = some comp := hcy.symm.trans fC
  cases ec
  generalize hF : Jvm.Free.Multi.fill (T.setVm vm₁) cA cy n.toNatClampNeg k.toNatClampNeg (defaultValue ty) n.toNatClampNeg = F at X' step
  have hTh : (T.setVm vm₁).heap = H := hT
  obtain ⟨f1, f2, -, -⟩ := Jvm.Free.Multi.fill_facts (T.setVm vm₁) cA cy n.toNatClampNeg k.toNatClampNeg (defaultValue ty) n.toNatClampNeg
  rw [hF, hTh] at f1 f2
  have hold : ∀ x : Nat, x < H.size → F.heap[x]? = H[x]? := fun x hx => by
    have := Jvm.Free.Multi.fill_old (T.setVm vm₁) cA cy n.toNatClampNeg k.toNatClampNeg (defaultValue ty) (a := x) (by rw [hTh]; exact hx) n.toNatClampNeg
    rw [hF, hTh] at this
    exact this
  have hrow : ∀ j : Nat, j < n.toNatClampNeg → F.heap[H.size + 1 + j]? = some (vp_cell cy z) := fun j hj => by
    have := Jvm.Free.Multi.fill_inner (T.setVm vm₁) cA cy n.toNatClampNeg k.toNatClampNeg (defaultValue ty) n.toNatClampNeg j hj
    rw [hF, hTh, hz] at this
    exact this
  have hout : Jvm.Free.Multi.outerC cA n.toNatClampNeg H.size n.toNatClampNeg = vp_cell cA (n.toNatClampNeg, .inr (.inr (.inr (.inr (fun i => if i < n.toNatClampNeg then some (H.size + 1 + i) else none))))) := by
    rw [vp_cell_q]
    exact vr_outer cA n.toNatClampNeg H.size n.toNatClampNeg
  rw [hout] at f2
  have hlt : ∀ a, a ∈ L → a < H.size := fun a ha => by
    obtain ⟨k9, hk9⟩ := va_pl_get (X := X) (f := f) ha
    exact (hP k9 _ hk9).lt
  have hnl : ∀ i : Nat, i < n.toNatClampNeg → H.size + 1 + i ∉ L := fun i _ h => by
    have := hlt _ h
    omega
  have hnm : ∀ a, a ∈ (List.range n.toNatClampNeg).map (fun i => H.size + 1 + i) → a ∉ L := fun a ha h => by
    obtain ⟨i, -, rfl⟩ := List.mem_map.mp ha
    have := hlt _ h
    omega
  have hP0 : va_P D cl (X ++ va_pl L f) F.heap := hP.kept (fun k9 x hx => hold x.1 ((hP k9 x hx).lt))
  have hP1 : va_P D cl ((X ++ va_pl L f) ++ [(H.size, .inl (cA, n.toNatClampNeg, .inr (.inr (.inr (.inr (fun i => if i < n.toNatClampNeg then some (H.size + 1 + i) else none))))))]) F.heap := hP0.app (fun k9 x hx => by
    have h0 : k9 < 1 := (List.getElem?_eq_some_iff.mp hx).1
    rw [show k9 = 0 by omega] at hx
    cases hx
    exact f2)
  have hP2 : va_P D cl (((X ++ va_pl L f) ++ [(H.size, .inl (cA, n.toNatClampNeg, .inr (.inr (.inr (.inr (fun i => if i < n.toNatClampNeg then some (H.size + 1 + i) else none))))))]) ++ ((List.range n.toNatClampNeg).map (fun i => H.size + 1 + i)).map (fun a => (a, .inl (cy, z)))) F.heap := hP1.app (fun k9 x hx => by
    obtain ⟨a, ha, rfl⟩ := List.mem_map.mp (List.mem_of_getElem? hx)
    obtain ⟨i, hi, rfl⟩ := List.mem_map.mp ha
    exact hrow i (List.mem_range.mp hi))
  have hD2 : va_D A (((X ++ va_pl L f) ++ [(H.size, .inl (cA, n.toNatClampNeg, .inr (.inr (.inr (.inr (fun i => if i < n.toNatClampNeg then some (H.size + 1 + i) else none))))))]) ++ ((List.range n.toNatClampNeg).map (fun i => H.size + 1 + i)).map (fun a => (a, .inl (cy, z)))) := by
    have hD1 := hD.push (e := .inl (cA, n.toNatClampNeg, .inr (.inr (.inr (.inr (fun i => if i < n.toNatClampNeg then some (H.size + 1 + i) else none)))))) hP rfl (hA _ hS.1)
    generalize hW1 : (X ++ va_pl L f) ++ [(H.size, .inl (cA, n.toNatClampNeg, .inr (.inr (.inr (.inr (fun i => if i < n.toNatClampNeg then some (H.size + 1 + i) else none))))))] = W1 at hD1 hP1 ⊢
    have hle : ∀ (k9 : Nat) (x : Nat × va_E), W1[k9]? = some x → x.1 ≤ H.size := fun k9 x hx => by
      rw [← hW1] at hx
      by_cases hl : k9 < (X ++ va_pl L f).length
      · rw [List.getElem?_append_left hl] at hx
        exact Nat.le_of_lt ((hP k9 x hx).lt)
      · rw [List.getElem?_append_right (by omega)] at hx
        have h0 : k9 - (X ++ va_pl L f).length < 1 := (List.getElem?_eq_some_iff.mp hx).1
        rw [show k9 - (X ++ va_pl L f).length = 0 by omega] at hx
        cases hx
        exact Nat.le_refl _
    have hr : ∀ (k9 : Nat) (x : Nat × va_E), (((List.range n.toNatClampNeg).map (fun i => H.size + 1 + i)).map (fun a => ((a, .inl (cy, z)) : Nat × va_E)))[k9]? = some x → x.1 = H.size + 1 + k9 := fun k9 x hx => by
      rw [List.getElem?_map, List.getElem?_map] at hx
      by_cases h9 : k9 < n.toNatClampNeg
      · rw [List.getElem?_range h9] at hx
        cases hx
        rfl
      · have hn0 : (List.range n.toNatClampNeg)[k9]? = none := List.getElem?_eq_none (by rw [List.length_range]; omega)
        rw [hn0] at hx
        cases hx
    refine ⟨fun i j x y hi hj hxy => ?_, fun k9 x hx => ?_⟩
    · by_cases h1 : i < W1.length <;> by_cases h2 : j < W1.length
      · rw [List.getElem?_append_left h1] at hi
        rw [List.getElem?_append_left h2] at hj
        exact hD1.1 i j x y hi hj hxy
      · rw [List.getElem?_append_left h1] at hi
        rw [List.getElem?_append_right (by omega)] at hj
        have := hle _ _ hi
        have := hr _ _ hj
        omega
      · rw [List.getElem?_append_right (by omega)] at hi
        rw [List.getElem?_append_left h2] at hj
        have := hle _ _ hj
        have := hr _ _ hi
        omega
      · rw [List.getElem?_append_right (by omega)] at hi hj
        have := hr _ _ hi
        have := hr _ _ hj
        omega
    · by_cases h1 : k9 < W1.length
      · rw [List.getElem?_append_left h1] at hx
        exact hD1.2 k9 x hx
      · rw [List.getElem?_append_right (by omega)] at hx
        have := hr _ _ hx
        exact hA _ (by have := hS.1; omega)
  have hAr : ArrOfT s cA (.array ty) := fun N9 z9 => by
    obtain ⟨-, k9, hk9, cm9, hkk9⟩ := (hO 0 0 0).1
    exact ⟨(fun q hq => by cases hq), k9, hk9, cm9, hkk9⟩
  have hK2 : va_K D cl (tys ++ [(cA, .array ty)]) s := ⟨hK.1, fun k9 x hx => by
    by_cases hl : k9 < tys.length
    · rw [List.getElem?_append_left hl] at hx
      exact hK.2 k9 x hx
    · rw [List.getElem?_append_right (by omega)] at hx
      have h0 : k9 - tys.length < 1 := (List.getElem?_eq_some_iff.mp hx).1
      rw [show k9 - tys.length = 0 by omega] at hx
      cases hx
      exact ⟨hAr, fA⟩⟩
  obtain ⟨t, a1, b1⟩ := kk H.size (fun i => H.size + 1 + i) cA F.heap (fun i j _ _ h => by have h9 : H.size + 1 + i = H.size + 1 + j := h; omega) hnl hK2 (by rw [← vr_rows hnm]; exact vr_lay hP2) (by rw [← vr_rows hnm]; exact vr_layD hD2) ⟨by rw [f1]; have := hS.1; omega, fun x h1 h2 => (hold x (Nat.lt_of_lt_of_le h1 hS.1)).trans (hS.2.1 x h1 h2), hS.2.2⟩ F rfl X'
  refine ⟨t, step t ?_, b1⟩
  have e : T.heap.size = H.size := by rw [hT]
  rw [e]
  exact a1
end VGM
/-! ===== END ===== -/

/-! ===== BEGIN printed: names, fields, word lists, decode rows ===== -/
def RX0 : String := "CarillonDesk$Clappers"
def TX0 : u_T := fun k => match k with
  | _ => ("CarillonDesk$Clappers", "struck", "[J", true)
def tyX0 : Nat → FieldType := fun k => match k with
  | _ => .array .long
abbrev wsX00 : List Cond := u_ws RX0 TX0 1
theorem nmX0 : ∀ a, a < 1 → ∀ b, b < 1 → a ≠ b → (TX0 a).2.1 ≠ (TX0 b).2.1 := by decide +kernel
theorem tyX0_ok : ∀ k, k < 1 → parseFieldDescriptor (TX0 k).2.2.1 = some (tyX0 k) := by decide +kernel
abbrev cX0_init : ByteArray := prog_2_method_1_code
def yX0_init : MethodName := ⟨RX0, "<init>", "()V"⟩
abbrev cX0_playByFists : ByteArray := prog_2_method_2_code
def yX0_playByFists : MethodName := ⟨RX0, "playByFists", "(LCarillonDesk$Score;LCarillonDesk$Setting;)I"⟩
abbrev cX0_playByDrum : ByteArray := prog_2_method_3_code
def yX0_playByDrum : MethodName := ⟨RX0, "playByDrum", "(LCarillonDesk$Drum;)I"⟩
abbrev cX0_wornAt : ByteArray := prog_2_method_4_code
def yX0_wornAt : MethodName := ⟨RX0, "wornAt", "(I)I"⟩
abbrev cX0_copyFrom : ByteArray := prog_2_method_5_code
def yX0_copyFrom : MethodName := ⟨RX0, "copyFrom", "(LCarillonDesk$Clappers;)V"⟩
def RX1 : String := "CarillonDesk$Drum"
def TX1 : u_T := fun k => match k with
  | 0 => ("CarillonDesk$Drum", "pinSteps", "[I", true)
  | 1 => ("CarillonDesk$Drum", "pinBells", "[I", true)
  | 2 => ("CarillonDesk$Drum", "size", "I", false)
  | 3 => ("CarillonDesk$Drum", "steps", "I", false)
  | _ => ("CarillonDesk$Drum", "latestTurn", "I", false)
def tyX1 : Nat → FieldType := fun k => match k with
  | 0 => .array .int
  | 1 => .array .int
  | 2 => .int
  | 3 => .int
  | _ => .int
abbrev wsX10 : List Cond := u_ws RX1 TX1 5
theorem nmX1 : ∀ a, a < 5 → ∀ b, b < 5 → a ≠ b → (TX1 a).2.1 ≠ (TX1 b).2.1 := by decide +kernel
theorem tyX1_ok : ∀ k, k < 5 → parseFieldDescriptor (TX1 k).2.2.1 = some (tyX1 k) := by decide +kernel
abbrev cX1_init : ByteArray := prog_3_method_1_code
def yX1_init : MethodName := ⟨RX1, "<init>", "()V"⟩
abbrev cX1_renew : ByteArray := prog_3_method_2_code
def yX1_renew : MethodName := ⟨RX1, "renew", "(I)V"⟩
abbrev cX1_hasPin : ByteArray := prog_3_method_3_code
def yX1_hasPin : MethodName := ⟨RX1, "hasPin", "(II)Z"⟩
abbrev cX1_fits : ByteArray := prog_3_method_4_code
def yX1_fits : MethodName := ⟨RX1, "fits", "(LCarillonDesk$Score;)Z"⟩
abbrev cX1_pinDown : ByteArray := prog_3_method_5_code
def yX1_pinDown : MethodName := ⟨RX1, "pinDown", "(LCarillonDesk$Score;I)V"⟩
abbrev cX1_copyFrom : ByteArray := prog_3_method_6_code
def yX1_copyFrom : MethodName := ⟨RX1, "copyFrom", "(LCarillonDesk$Drum;)V"⟩
def RX2 : String := "CarillonDesk$Matter"
def TX2 : u_T := fun k => match k with
  | 0 => ("CarillonDesk$Matter", "music", "LCarillonDesk$Score;", true)
  | 1 => ("CarillonDesk$Matter", "tones", "LCarillonDesk$Tones;", true)
  | 2 => ("CarillonDesk$Matter", "barrel", "LCarillonDesk$Drum;", true)
  | 3 => ("CarillonDesk$Matter", "clappers", "LCarillonDesk$Clappers;", true)
  | 4 => ("CarillonDesk$Matter", "faultKind", "I", false)
  | 5 => ("CarillonDesk$Matter", "faultPlace", "I", false)
  | 6 => ("CarillonDesk$Matter", "reach", "I", false)
  | _ => ("CarillonDesk$Matter", "price", "I", false)
def tyX2 : Nat → FieldType := fun k => match k with
  | 0 => .object "CarillonDesk$Score"
  | 1 => .object "CarillonDesk$Tones"
  | 2 => .object "CarillonDesk$Drum"
  | 3 => .object "CarillonDesk$Clappers"
  | 4 => .int
  | 5 => .int
  | 6 => .int
  | _ => .int
abbrev wsX20 : List Cond := u_ws RX2 TX2 8
theorem nmX2 : ∀ a, a < 8 → ∀ b, b < 8 → a ≠ b → (TX2 a).2.1 ≠ (TX2 b).2.1 := by decide +kernel
theorem tyX2_ok : ∀ k, k < 8 → parseFieldDescriptor (TX2 k).2.2.1 = some (tyX2 k) := by decide +kernel
abbrev cX2_init : ByteArray := prog_4_method_1_code
def yX2_init : MethodName := ⟨RX2, "<init>", "()V"⟩
abbrev cX2_copyFrom : ByteArray := prog_4_method_2_code
def yX2_copyFrom : MethodName := ⟨RX2, "copyFrom", "(LCarillonDesk$Matter;)V"⟩
def RX3 : String := "CarillonDesk$Need"
def TX3 : u_T := fun k => match k with
  | 0 => ("CarillonDesk$Need", "music", "LCarillonDesk$Score;", true)
  | _ => ("CarillonDesk$Need", "soFar", "[[I", true)
def tyX3 : Nat → FieldType := fun k => match k with
  | 0 => .object "CarillonDesk$Score"
  | _ => .array (.array .int)
abbrev wsX30 : List Cond := u_ws RX3 TX3 2
theorem nmX3 : ∀ a, a < 2 → ∀ b, b < 2 → a ≠ b → (TX3 a).2.1 ≠ (TX3 b).2.1 := by decide +kernel
theorem tyX3_ok : ∀ k, k < 2 → parseFieldDescriptor (TX3 k).2.2.1 = some (tyX3 k) := by decide +kernel
abbrev cX3_init : ByteArray := prog_5_method_1_code
def yX3_init : MethodName := ⟨RX3, "<init>", "(LCarillonDesk$Score;)V"⟩
abbrev cX3_leastReach : ByteArray := prog_5_method_2_code
def yX3_leastReach : MethodName := ⟨RX3, "leastReach", "()I"⟩
abbrev cX3_handOver : ByteArray := prog_5_method_3_code
def yX3_handOver : MethodName := ⟨RX3, "handOver", "(II)I"⟩
abbrev cX3_stay : ByteArray := prog_5_method_4_code
def yX3_stay : MethodName := ⟨RX3, "stay", "(II)V"⟩
abbrev cX3_reachFor : ByteArray := prog_5_method_5_code
def yX3_reachFor : MethodName := ⟨RX3, "reachFor", "(II)I"⟩
def RX4 : String := "CarillonDesk$Reader"
def TX4 : u_T := fun k => match k with
  | 0 => ("CarillonDesk$Reader", "draft", "LCarillonDesk$Score;", true)
  | 1 => ("CarillonDesk$Reader", "faultKind", "I", false)
  | 2 => ("CarillonDesk$Reader", "faultPlace", "I", false)
  | 3 => ("CarillonDesk$Reader", "tape", "LCarillonDesk$Tape;", true)
  | 4 => ("CarillonDesk$Reader", "bodyPlace", "[I", true)
  | 5 => ("CarillonDesk$Reader", "roundsLeft", "[I", true)
  | 6 => ("CarillonDesk$Reader", "lengthAhead", "[I", true)
  | 7 => ("CarillonDesk$Reader", "tickAhead", "[I", true)
  | 8 => ("CarillonDesk$Reader", "open", "I", false)
  | 9 => ("CarillonDesk$Reader", "place", "I", false)
  | 10 => ("CarillonDesk$Reader", "numberPlace", "I", false)
  | 11 => ("CarillonDesk$Reader", "length", "I", false)
  | 12 => ("CarillonDesk$Reader", "tick", "I", false)
  | 13 => ("CarillonDesk$Reader", "firstOfTwo", "I", false)
  | 14 => ("CarillonDesk$Reader", "secondOfTwo", "I", false)
  | _ => ("CarillonDesk$Reader", "bellMask", "I", false)
def tyX4 : Nat → FieldType := fun k => match k with
  | 0 => .object "CarillonDesk$Score"
  | 1 => .int
  | 2 => .int
  | 3 => .object "CarillonDesk$Tape"
  | 4 => .array .int
  | 5 => .array .int
  | 6 => .array .int
  | 7 => .array .int
  | 8 => .int
  | 9 => .int
  | 10 => .int
  | 11 => .int
  | 12 => .int
  | 13 => .int
  | 14 => .int
  | _ => .int
abbrev wsX40 : List Cond := u_ws RX4 TX4 16
theorem nmX4 : ∀ a, a < 16 → ∀ b, b < 16 → a ≠ b → (TX4 a).2.1 ≠ (TX4 b).2.1 := by decide +kernel
theorem tyX4_ok : ∀ k, k < 16 → parseFieldDescriptor (TX4 k).2.2.1 = some (tyX4 k) := by decide +kernel
abbrev cX4_init : ByteArray := prog_6_method_1_code
def yX4_init : MethodName := ⟨RX4, "<init>", "(LCarillonDesk$Tape;)V"⟩
abbrev cX4_readAll : ByteArray := prog_6_method_2_code
def yX4_readAll : MethodName := ⟨RX4, "readAll", "()Z"⟩
abbrev cX4_start : ByteArray := prog_6_method_3_code
def yX4_start : MethodName := ⟨RX4, "start", "()V"⟩
abbrev cX4_openGroup : ByteArray := prog_6_method_4_code
def yX4_openGroup : MethodName := ⟨RX4, "openGroup", "()V"⟩
abbrev cX4_closeGroup : ByteArray := prog_6_method_5_code
def yX4_closeGroup : MethodName := ⟨RX4, "closeGroup", "()V"⟩
abbrev cX4_readItem : ByteArray := prog_6_method_6_code
def yX4_readItem : MethodName := ⟨RX4, "readItem", "(I)V"⟩
abbrev cX4_readChord : ByteArray := prog_6_method_7_code
def yX4_readChord : MethodName := ⟨RX4, "readChord", "()V"⟩
abbrev cX4_readBell : ByteArray := prog_6_method_8_code
def yX4_readBell : MethodName := ⟨RX4, "readBell", "()I"⟩
abbrev cX4_readLength : ByteArray := prog_6_method_9_code
def yX4_readLength : MethodName := ⟨RX4, "readLength", "()V"⟩
abbrev cX4_writeItem : ByteArray := prog_6_method_10_code
def yX4_writeItem : MethodName := ⟨RX4, "writeItem", "(ZI)V"⟩
abbrev cX4_readNumber : ByteArray := prog_6_method_11_code
def yX4_readNumber : MethodName := ⟨RX4, "readNumber", "(II)I"⟩
abbrev cX4_expect : ByteArray := prog_6_method_12_code
def yX4_expect : MethodName := ⟨RX4, "expect", "(C)V"⟩
abbrev cX4_fail : ByteArray := prog_6_method_13_code
def yX4_fail : MethodName := ⟨RX4, "fail", "(II)V"⟩
abbrev cX4_nextSign : ByteArray := prog_6_method_14_code
def yX4_nextSign : MethodName := ⟨RX4, "nextSign", "()I"⟩
abbrev cX4_signHere : ByteArray := prog_6_method_15_code
def yX4_signHere : MethodName := ⟨RX4, "signHere", "()I"⟩
abbrev cX4_isDigit : ByteArray := prog_6_method_16_code
def yX4_isDigit : MethodName := ⟨RX4, "isDigit", "(I)Z"⟩
def RX5 : String := "CarillonDesk$Score"
def TX5 : u_T := fun k => match k with
  | 0 => ("CarillonDesk$Score", "ticks", "[I", true)
  | 1 => ("CarillonDesk$Score", "bells", "[I", true)
  | 2 => ("CarillonDesk$Score", "size", "I", false)
  | _ => ("CarillonDesk$Score", "behind", "I", false)
def tyX5 : Nat → FieldType := fun k => match k with
  | 0 => .array .int
  | 1 => .array .int
  | 2 => .int
  | _ => .int
abbrev wsX50 : List Cond := u_ws RX5 TX5 4
theorem nmX5 : ∀ a, a < 4 → ∀ b, b < 4 → a ≠ b → (TX5 a).2.1 ≠ (TX5 b).2.1 := by decide +kernel
theorem tyX5_ok : ∀ k, k < 4 → parseFieldDescriptor (TX5 k).2.2.1 = some (tyX5 k) := by decide +kernel
abbrev cX5_init : ByteArray := prog_7_method_1_code
def yX5_init : MethodName := ⟨RX5, "<init>", "()V"⟩
abbrev cX5_has : ByteArray := prog_7_method_2_code
def yX5_has : MethodName := ⟨RX5, "has", "(I)Z"⟩
abbrev cX5_clear : ByteArray := prog_7_method_3_code
def yX5_clear : MethodName := ⟨RX5, "clear", "()V"⟩
abbrev cX5_addStrike : ByteArray := prog_7_method_4_code
def yX5_addStrike : MethodName := ⟨RX5, "addStrike", "(II)V"⟩
abbrev cX5_bellsBetween : ByteArray := prog_7_method_5_code
def yX5_bellsBetween : MethodName := ⟨RX5, "bellsBetween", "(II)I"⟩
abbrev cX5_copyFrom : ByteArray := prog_7_method_6_code
def yX5_copyFrom : MethodName := ⟨RX5, "copyFrom", "(LCarillonDesk$Score;)V"⟩
def RX6 : String := "CarillonDesk$Setting"
def TX6 : u_T := fun k => match k with
  | 0 => ("CarillonDesk$Setting", "who", "[I", true)
  | 1 => ("CarillonDesk$Setting", "gone", "[I", true)
  | 2 => ("CarillonDesk$Setting", "total", "I", false)
  | 3 => ("CarillonDesk$Setting", "leftOut", "I", false)
  | 4 => ("CarillonDesk$Setting", "music", "LCarillonDesk$Score;", true)
  | 5 => ("CarillonDesk$Setting", "rest", "[I", true)
  | 6 => ("CarillonDesk$Setting", "reach", "I", false)
  | _ => ("CarillonDesk$Setting", "price", "I", false)
def tyX6 : Nat → FieldType := fun k => match k with
  | 0 => .array .int
  | 1 => .array .int
  | 2 => .int
  | 3 => .int
  | 4 => .object "CarillonDesk$Score"
  | 5 => .array .int
  | 6 => .int
  | _ => .int
abbrev wsX60 : List Cond := u_ws RX6 TX6 8
theorem nmX6 : ∀ a, a < 8 → ∀ b, b < 8 → a ≠ b → (TX6 a).2.1 ≠ (TX6 b).2.1 := by decide +kernel
theorem tyX6_ok : ∀ k, k < 8 → parseFieldDescriptor (TX6 k).2.2.1 = some (tyX6 k) := by decide +kernel
abbrev cX6_init : ByteArray := prog_8_method_1_code
def yX6_init : MethodName := ⟨RX6, "<init>", "(LCarillonDesk$Score;)V"⟩
abbrev cX6_settle : ByteArray := prog_8_method_2_code
def yX6_settle : MethodName := ⟨RX6, "settle", "(II)V"⟩
abbrev cX6_spot : ByteArray := prog_8_method_3_code
def yX6_spot : MethodName := ⟨RX6, "spot", "(II)I"⟩
abbrev cX6_leastRest : ByteArray := prog_8_method_4_code
def yX6_leastRest : MethodName := ⟨RX6, "leastRest", "(II)I"⟩
abbrev cX6_costBy : ByteArray := prog_8_method_5_code
def yX6_costBy : MethodName := ⟨RX6, "costBy", "(IIII)I"⟩
abbrev cX6_moveTo : ByteArray := prog_8_method_6_code
def yX6_moveTo : MethodName := ⟨RX6, "moveTo", "(II)I"⟩
abbrev cX6_walk : ByteArray := prog_8_method_7_code
def yX6_walk : MethodName := ⟨RX6, "walk", "()V"⟩
def RX7 : String := "CarillonDesk$Tape"
def TX7 : u_T := fun k => match k with
  | 0 => ("CarillonDesk$Tape", "bytes", "[B", true)
  | _ => ("CarillonDesk$Tape", "size", "I", false)
def tyX7 : Nat → FieldType := fun k => match k with
  | 0 => .array .byte
  | _ => .int
abbrev wsX70 : List Cond := u_ws RX7 TX7 2
theorem nmX7 : ∀ a, a < 2 → ∀ b, b < 2 → a ≠ b → (TX7 a).2.1 ≠ (TX7 b).2.1 := by decide +kernel
theorem tyX7_ok : ∀ k, k < 2 → parseFieldDescriptor (TX7 k).2.2.1 = some (tyX7 k) := by decide +kernel
abbrev cX7_init : ByteArray := prog_9_method_1_code
def yX7_init : MethodName := ⟨RX7, "<init>", "()V"⟩
abbrev cX7_hasRoom : ByteArray := prog_9_method_2_code
def yX7_hasRoom : MethodName := ⟨RX7, "hasRoom", "()Z"⟩
abbrev cX7_addNumber : ByteArray := prog_9_method_3_code
def yX7_addNumber : MethodName := ⟨RX7, "addNumber", "(I)V"⟩
def RX8 : String := "CarillonDesk$Tones"
def TX8 : u_T := fun k => match k with
  | 0 => ("CarillonDesk$Tones", "tails", "[I", true)
  | 1 => ("CarillonDesk$Tones", "quarrelBits", "I", false)
  | _ => ("CarillonDesk$Tones", "lengths", "[I", true)
def tyX8 : Nat → FieldType := fun k => match k with
  | 0 => .array .int
  | 1 => .int
  | _ => .array .int
abbrev wsX80 : List Cond := u_ws RX8 TX8 3
theorem nmX8 : ∀ a, a < 3 → ∀ b, b < 3 → a ≠ b → (TX8 a).2.1 ≠ (TX8 b).2.1 := by decide +kernel
theorem tyX8_ok : ∀ k, k < 3 → parseFieldDescriptor (TX8 k).2.2.1 = some (tyX8 k) := by decide +kernel
abbrev cX8_init : ByteArray := prog_10_method_1_code
def yX8_init : MethodName := ⟨RX8, "<init>", "()V"⟩
abbrev cX8_soundLength : ByteArray := prog_10_method_2_code
def yX8_soundLength : MethodName := ⟨RX8, "soundLength", "(LCarillonDesk$Score;I)I"⟩
abbrev cX8_quarrelTicks : ByteArray := prog_10_method_3_code
def yX8_quarrelTicks : MethodName := ⟨RX8, "quarrelTicks", "(LCarillonDesk$Score;)I"⟩
abbrev cX8_canQuarrel : ByteArray := prog_10_method_4_code
def yX8_canQuarrel : MethodName := ⟨RX8, "canQuarrel", "(LCarillonDesk$Score;II)Z"⟩
abbrev cX8_ticksTogether : ByteArray := prog_10_method_5_code
def yX8_ticksTogether : MethodName := ⟨RX8, "ticksTogether", "(LCarillonDesk$Score;II)I"⟩
abbrev cX8_copyFrom : ByteArray := prog_10_method_6_code
def yX8_copyFrom : MethodName := ⟨RX8, "copyFrom", "(LCarillonDesk$Tones;)V"⟩
def RX9 : String := "CarillonDesk$Turns"
def TX9 : u_T := fun k => match k with
  | 0 => ("CarillonDesk$Turns", "best", "I", false)
  | 1 => ("CarillonDesk$Turns", "mostKept", "I", false)
  | _ => ("CarillonDesk$Turns", "kept", "[I", true)
def tyX9 : Nat → FieldType := fun k => match k with
  | 0 => .int
  | 1 => .int
  | _ => .array .int
abbrev wsX90 : List Cond := u_ws RX9 TX9 3
theorem nmX9 : ∀ a, a < 3 → ∀ b, b < 3 → a ≠ b → (TX9 a).2.1 ≠ (TX9 b).2.1 := by decide +kernel
theorem tyX9_ok : ∀ k, k < 3 → parseFieldDescriptor (TX9 k).2.2.1 = some (tyX9 k) := by decide +kernel
abbrev cX9_init : ByteArray := prog_11_method_1_code
def yX9_init : MethodName := ⟨RX9, "<init>", "()V"⟩
abbrev cX9_find : ByteArray := prog_11_method_2_code
def yX9_find : MethodName := ⟨RX9, "find", "(LCarillonDesk$Drum;LCarillonDesk$Score;)V"⟩
def RX10 : String := "CarillonDesk"
def TX10 : u_T := fun k => match k with
  | 0 => ("CarillonDesk", "tape", "LCarillonDesk$Tape;", true)
  | 1 => ("CarillonDesk", "reader", "LCarillonDesk$Reader;", true)
  | 2 => ("CarillonDesk", "now", "LCarillonDesk$Matter;", true)
  | 3 => ("CarillonDesk", "images", "[LCarillonDesk$Matter;", true)
  | 4 => ("CarillonDesk", "setting", "LCarillonDesk$Setting;", true)
  | 5 => ("CarillonDesk", "least", "LCarillonDesk$Need;", true)
  | 6 => ("CarillonDesk", "turns", "LCarillonDesk$Turns;", true)
  | _ => ("CarillonDesk", "settled", "Z", false)
def tyX10 : Nat → FieldType := fun k => match k with
  | 0 => .object "CarillonDesk$Tape"
  | 1 => .object "CarillonDesk$Reader"
  | 2 => .object "CarillonDesk$Matter"
  | 3 => .array (.object "CarillonDesk$Matter")
  | 4 => .object "CarillonDesk$Setting"
  | 5 => .object "CarillonDesk$Need"
  | 6 => .object "CarillonDesk$Turns"
  | _ => .boolean
abbrev wsX100 : List Cond := u_ws RX10 TX10 8
theorem nmX10 : ∀ a, a < 8 → ∀ b, b < 8 → a ≠ b → (TX10 a).2.1 ≠ (TX10 b).2.1 := by decide +kernel
theorem tyX10_ok : ∀ k, k < 8 → parseFieldDescriptor (TX10 k).2.2.1 = some (tyX10 k) := by decide +kernel
abbrev cX10_init : ByteArray := prog_1_method_1_code
def yX10_init : MethodName := ⟨RX10, "<init>", "()V"⟩
abbrev cX10_feed : ByteArray := prog_1_method_2_code
def yX10_feed : MethodName := ⟨RX10, "feed", "(IIIII)I"⟩
abbrev cX10_end : ByteArray := prog_1_method_3_code
def yX10_end : MethodName := ⟨RX10, "end", "(I)Z"⟩
abbrev cX10_score : ByteArray := prog_1_method_4_code
def yX10_score : MethodName := ⟨RX10, "score", "()I"⟩
abbrev cX10_fault : ByteArray := prog_1_method_5_code
def yX10_fault : MethodName := ⟨RX10, "fault", "(I)I"⟩
abbrev cX10_strike : ByteArray := prog_1_method_6_code
def yX10_strike : MethodName := ⟨RX10, "strike", "(II)I"⟩
abbrev cX10_count : ByteArray := prog_1_method_7_code
def yX10_count : MethodName := ⟨RX10, "count", "(I)I"⟩
abbrev cX10_fists : ByteArray := prog_1_method_8_code
def yX10_fists : MethodName := ⟨RX10, "fists", "(II)Z"⟩
abbrev cX10_cost : ByteArray := prog_1_method_9_code
def yX10_cost : MethodName := ⟨RX10, "cost", "()I"⟩
abbrev cX10_need : ByteArray := prog_1_method_10_code
def yX10_need : MethodName := ⟨RX10, "need", "()I"⟩
abbrev cX10_by : ByteArray := prog_1_method_11_code
def yX10_by : MethodName := ⟨RX10, "by", "(I)I"⟩
abbrev cX10_way : ByteArray := prog_1_method_12_code
def yX10_way : MethodName := ⟨RX10, "way", "(I)I"⟩
abbrev cX10_tail : ByteArray := prog_1_method_13_code
def yX10_tail : MethodName := ⟨RX10, "tail", "(II)I"⟩
abbrev cX10_quarrel : ByteArray := prog_1_method_14_code
def yX10_quarrel : MethodName := ⟨RX10, "quarrel", "(I)I"⟩
abbrev cX10_quarrels : ByteArray := prog_1_method_15_code
def yX10_quarrels : MethodName := ⟨RX10, "quarrels", "()I"⟩
abbrev cX10_sounds : ByteArray := prog_1_method_16_code
def yX10_sounds : MethodName := ⟨RX10, "sounds", "(I)I"⟩
abbrev cX10_drum : ByteArray := prog_1_method_17_code
def yX10_drum : MethodName := ⟨RX10, "drum", "(I)Z"⟩
abbrev cX10_change : ByteArray := prog_1_method_18_code
def yX10_change : MethodName := ⟨RX10, "change", "()I"⟩
abbrev cX10_turn : ByteArray := prog_1_method_19_code
def yX10_turn : MethodName := ⟨RX10, "turn", "()I"⟩
abbrev cX10_pin : ByteArray := prog_1_method_20_code
def yX10_pin : MethodName := ⟨RX10, "pin", "(II)I"⟩
abbrev cX10_pins : ByteArray := prog_1_method_21_code
def yX10_pins : MethodName := ⟨RX10, "pins", "()I"⟩
abbrev cX10_play : ByteArray := prog_1_method_22_code
def yX10_play : MethodName := ⟨RX10, "play", "(I)I"⟩
abbrev cX10_strikes : ByteArray := prog_1_method_23_code
def yX10_strikes : MethodName := ⟨RX10, "strikes", "(I)J"⟩
abbrev cX10_mend : ByteArray := prog_1_method_24_code
def yX10_mend : MethodName := ⟨RX10, "mend", "(I)J"⟩
abbrev cX10_worn : ByteArray := prog_1_method_25_code
def yX10_worn : MethodName := ⟨RX10, "worn", "(I)I"⟩
abbrev cX10_image : ByteArray := prog_1_method_26_code
def yX10_image : MethodName := ⟨RX10, "image", "(I)Z"⟩
abbrev cX10_back : ByteArray := prog_1_method_27_code
def yX10_back : MethodName := ⟨RX10, "back", "(I)Z"⟩
abbrev cX10_isBell : ByteArray := prog_1_method_28_code
def yX10_isBell : MethodName := ⟨RX10, "isBell", "(I)Z"⟩
abbrev cX10_theSetting : ByteArray := prog_1_method_29_code
def yX10_theSetting : MethodName := ⟨RX10, "theSetting", "()LCarillonDesk$Setting;"⟩
def RX11 : String := "CarillonDeskModel"
def TX11 : u_T := fun k => match k with
  | 0 => ("CarillonDeskModel", "d", "[I", true)
  | 1 => ("CarillonDeskModel", "struck", "[J", true)
  | 2 => ("CarillonDeskModel", "isKept", "[Z", true)
  | 3 => ("CarillonDeskModel", "tape", "[I", true)
  | 4 => ("CarillonDeskModel", "taped", "I", false)
  | 5 => ("CarillonDeskModel", "at", "I", false)
  | 6 => ("CarillonDeskModel", "size", "I", false)
  | 7 => ("CarillonDeskModel", "bad", "I", false)
  | 8 => ("CarillonDeskModel", "badPlace", "I", false)
  | 9 => ("CarillonDeskModel", "begun", "I", false)
  | 10 => ("CarillonDeskModel", "strikes", "I", false)
  | 11 => ("CarillonDeskModel", "tick", "I", false)
  | 12 => ("CarillonDeskModel", "newTick", "[I", true)
  | 13 => ("CarillonDeskModel", "newBell", "[I", true)
  | 14 => ("CarillonDeskModel", "lengthAt", "[I", true)
  | 15 => ("CarillonDeskModel", "latest", "I", false)
  | 16 => ("CarillonDeskModel", "open", "I", false)
  | 17 => ("CarillonDeskModel", "from", "[I", true)
  | 18 => ("CarillonDeskModel", "rounds", "[I", true)
  | 19 => ("CarillonDeskModel", "bells", "[I", true)
  | 20 => ("CarillonDeskModel", "least", "[I", true)
  | 21 => ("CarillonDeskModel", "choice", "[I", true)
  | _ => ("CarillonDeskModel", "went", "[I", true)
def tyX11 : Nat → FieldType := fun k => match k with
  | 0 => .array .int
  | 1 => .array .long
  | 2 => .array .boolean
  | 3 => .array .int
  | 4 => .int
  | 5 => .int
  | 6 => .int
  | 7 => .int
  | 8 => .int
  | 9 => .int
  | 10 => .int
  | 11 => .int
  | 12 => .array .int
  | 13 => .array .int
  | 14 => .array .int
  | 15 => .int
  | 16 => .int
  | 17 => .array .int
  | 18 => .array .int
  | 19 => .array .int
  | 20 => .array .int
  | 21 => .array .int
  | _ => .array .int
abbrev wsX110 : List Cond := u_ws RX11 TX11 23
theorem nmX11 : ∀ a, a < 23 → ∀ b, b < 23 → a ≠ b → (TX11 a).2.1 ≠ (TX11 b).2.1 := by decide +kernel
theorem tyX11_ok : ∀ k, k < 23 → parseFieldDescriptor (TX11 k).2.2.1 = some (tyX11 k) := by decide +kernel
abbrev cX11_init : ByteArray := prog_13_method_1_code
def yX11_init : MethodName := ⟨RX11, "<init>", "()V"⟩
abbrev cX11_image : ByteArray := prog_13_method_2_code
def yX11_image : MethodName := ⟨RX11, "image", "(I)Z"⟩
abbrev cX11_back : ByteArray := prog_13_method_3_code
def yX11_back : MethodName := ⟨RX11, "back", "(I)Z"⟩
abbrev cX11_feed : ByteArray := prog_13_method_4_code
def yX11_feed : MethodName := ⟨RX11, "feed", "(IIIII)I"⟩
abbrev cX11_end : ByteArray := prog_13_method_5_code
def yX11_end : MethodName := ⟨RX11, "end", "(I)Z"⟩
abbrev cX11_fail : ByteArray := prog_13_method_6_code
def yX11_fail : MethodName := ⟨RX11, "fail", "(II)V"⟩
abbrev cX11_next : ByteArray := prog_13_method_7_code
def yX11_next : MethodName := ⟨RX11, "next", "()I"⟩
abbrev cX11_sign : ByteArray := prog_13_method_8_code
def yX11_sign : MethodName := ⟨RX11, "sign", "(I)V"⟩
abbrev cX11_isDigit : ByteArray := prog_13_method_9_code
def yX11_isDigit : MethodName := ⟨RX11, "isDigit", "(I)Z"⟩
abbrev cX11_number : ByteArray := prog_13_method_10_code
def yX11_number : MethodName := ⟨RX11, "number", "(II)I"⟩
abbrev cX11_length : ByteArray := prog_13_method_11_code
def yX11_length : MethodName := ⟨RX11, "length", "(I)I"⟩
abbrev cX11_strikesHere : ByteArray := prog_13_method_12_code
def yX11_strikesHere : MethodName := ⟨RX11, "strikesHere", "(III)V"⟩
abbrev cX11_item : ByteArray := prog_13_method_13_code
def yX11_item : MethodName := ⟨RX11, "item", "()V"⟩
abbrev cX11_group : ByteArray := prog_13_method_14_code
def yX11_group : MethodName := ⟨RX11, "group", "()V"⟩
abbrev cX11_ends : ByteArray := prog_13_method_15_code
def yX11_ends : MethodName := ⟨RX11, "ends", "()V"⟩
abbrev cX11_score : ByteArray := prog_13_method_16_code
def yX11_score : MethodName := ⟨RX11, "score", "()I"⟩
abbrev cX11_fault : ByteArray := prog_13_method_17_code
def yX11_fault : MethodName := ⟨RX11, "fault", "(I)I"⟩
abbrev cX11_strike : ByteArray := prog_13_method_18_code
def yX11_strike : MethodName := ⟨RX11, "strike", "(II)I"⟩
abbrev cX11_place : ByteArray := prog_13_method_19_code
def yX11_place : MethodName := ⟨RX11, "place", "(III)I"⟩
abbrev cX11_moves : ByteArray := prog_13_method_20_code
def yX11_moves : MethodName := ⟨RX11, "moves", "(III)I"⟩
abbrev cX11_isCrossed : ByteArray := prog_13_method_21_code
def yX11_isCrossed : MethodName := ⟨RX11, "isCrossed", "(II)Z"⟩
abbrev cX11_costOf : ByteArray := prog_13_method_22_code
def yX11_costOf : MethodName := ⟨RX11, "costOf", "(IIIIII)I"⟩
abbrev cX11_behind : ByteArray := prog_13_method_23_code
def yX11_behind : MethodName := ⟨RX11, "behind", "(IIII)I"⟩
abbrev cX11_weighs : ByteArray := prog_13_method_24_code
def yX11_weighs : MethodName := ⟨RX11, "weighs", "(II)I"⟩
abbrev cX11_sets : ByteArray := prog_13_method_25_code
def yX11_sets : MethodName := ⟨RX11, "sets", "()I"⟩
abbrev cX11_fists : ByteArray := prog_13_method_26_code
def yX11_fists : MethodName := ⟨RX11, "fists", "(II)Z"⟩
abbrev cX11_cost : ByteArray := prog_13_method_27_code
def yX11_cost : MethodName := ⟨RX11, "cost", "()I"⟩
abbrev cX11_need : ByteArray := prog_13_method_28_code
def yX11_need : MethodName := ⟨RX11, "need", "()I"⟩
abbrev cX11_by : ByteArray := prog_13_method_29_code
def yX11_by : MethodName := ⟨RX11, "by", "(I)I"⟩
abbrev cX11_way : ByteArray := prog_13_method_30_code
def yX11_way : MethodName := ⟨RX11, "way", "(I)I"⟩
abbrev cX11_count : ByteArray := prog_13_method_31_code
def yX11_count : MethodName := ⟨RX11, "count", "(I)I"⟩
abbrev cX11_isBell : ByteArray := prog_13_method_32_code
def yX11_isBell : MethodName := ⟨RX11, "isBell", "(I)Z"⟩
abbrev cX11_tail : ByteArray := prog_13_method_33_code
def yX11_tail : MethodName := ⟨RX11, "tail", "(II)I"⟩
abbrev cX11_quarrel : ByteArray := prog_13_method_34_code
def yX11_quarrel : MethodName := ⟨RX11, "quarrel", "(I)I"⟩
abbrev cX11_sounds : ByteArray := prog_13_method_35_code
def yX11_sounds : MethodName := ⟨RX11, "sounds", "(I)I"⟩
abbrev cX11_quarrels : ByteArray := prog_13_method_36_code
def yX11_quarrels : MethodName := ⟨RX11, "quarrels", "()I"⟩
abbrev cX11_drum : ByteArray := prog_13_method_37_code
def yX11_drum : MethodName := ⟨RX11, "drum", "(I)Z"⟩
abbrev cX11_stepOf : ByteArray := prog_13_method_38_code
def yX11_stepOf : MethodName := ⟨RX11, "stepOf", "(II)I"⟩
abbrev cX11_change : ByteArray := prog_13_method_39_code
def yX11_change : MethodName := ⟨RX11, "change", "()I"⟩
abbrev cX11_turn : ByteArray := prog_13_method_40_code
def yX11_turn : MethodName := ⟨RX11, "turn", "()I"⟩
abbrev cX11_pin : ByteArray := prog_13_method_41_code
def yX11_pin : MethodName := ⟨RX11, "pin", "(II)I"⟩
abbrev cX11_pins : ByteArray := prog_13_method_42_code
def yX11_pins : MethodName := ⟨RX11, "pins", "()I"⟩
abbrev cX11_play : ByteArray := prog_13_method_43_code
def yX11_play : MethodName := ⟨RX11, "play", "(I)I"⟩
abbrev cX11_strikes : ByteArray := prog_13_method_44_code
def yX11_strikes : MethodName := ⟨RX11, "strikes", "(I)J"⟩
abbrev cX11_mend : ByteArray := prog_13_method_45_code
def yX11_mend : MethodName := ⟨RX11, "mend", "(I)J"⟩
abbrev cX11_worn : ByteArray := prog_13_method_46_code
def yX11_worn : MethodName := ⟨RX11, "worn", "(I)I"⟩
def RJ6 : String := "java/lang/Integer"
def TJ6 : u_T := fun k => match k with
  | _ => ("", "", "", false)
def tyJ6 : Nat → FieldType := fun k => match k with
  | _ => .int
abbrev wsJ60 : List Cond := u_ws RJ6 TJ6 0
theorem nmJ6 : ∀ a, a < 0 → ∀ b, b < 0 → a ≠ b → (TJ6 a).2.1 ≠ (TJ6 b).2.1 := by decide +kernel
theorem tyJ6_ok : ∀ k, k < 0 → parseFieldDescriptor (TJ6 k).2.2.1 = some (tyJ6 k) := by decide +kernel
abbrev cJ6_bitCount_0f7a4 : ByteArray := prog_14_method_49_code
def yJ6_bitCount_0f7a4 : MethodName := ⟨RJ6, "bitCount", "(I)I"⟩
def RJ9 : String := "java/lang/Math"
def TJ9 : u_T := fun k => match k with
  | _ => ("", "", "", false)
def tyJ9 : Nat → FieldType := fun k => match k with
  | _ => .int
abbrev wsJ90 : List Cond := u_ws RJ9 TJ9 0
theorem nmJ9 : ∀ a, a < 0 → ∀ b, b < 0 → a ≠ b → (TJ9 a).2.1 ≠ (TJ9 b).2.1 := by decide +kernel
theorem tyJ9_ok : ∀ k, k < 0 → parseFieldDescriptor (TJ9 k).2.2.1 = some (tyJ9 k) := by decide +kernel
abbrev cJ9_abs_0f7a4 : ByteArray := prog_15_method_59_code
def yJ9_abs_0f7a4 : MethodName := ⟨RJ9, "abs", "(I)I"⟩
abbrev cJ9_max_7cf53 : ByteArray := prog_15_method_65_code
def yJ9_max_7cf53 : MethodName := ⟨RJ9, "max", "(II)I"⟩
abbrev cJ9_min_7cf53 : ByteArray := prog_15_method_69_code
def yJ9_min_7cf53 : MethodName := ⟨RJ9, "min", "(II)I"⟩
def RJ10 : String := "java/lang/System"
def TJ10 : u_T := fun k => match k with
  | _ => ("", "", "", false)
def tyJ10 : Nat → FieldType := fun k => match k with
  | _ => .int
abbrev wsJ100 : List Cond := u_ws RJ10 TJ10 0
theorem nmJ10 : ∀ a, a < 0 → ∀ b, b < 0 → a ≠ b → (TJ10 a).2.1 ≠ (TJ10 b).2.1 := by decide +kernel
theorem tyJ10_ok : ∀ k, k < 0 → parseFieldDescriptor (TJ10 k).2.2.1 = some (tyJ10 k) := by decide +kernel
def RL : String := "CarillonDeskLaw"
abbrev cL_law : ByteArray := code
def yL_law : MethodName := ⟨RL, "law", "([I)Z"⟩
abbrev vwCl : List vw_C := [(RX0, TX0, 1), (RX1, TX1, 5), (RX2, TX2, 8), (RX3, TX3, 2), (RX4, TX4, 16), (RX5, TX5, 4), (RX6, TX6, 8), (RX7, TX7, 2), (RX8, TX8, 3), (RX9, TX9, 3), (RX10, TX10, 8), (RX11, TX11, 23)]
theorem inX0 : ∀ w ∈ wsX00, w ∈ lw_tbl := by decide +kernel
theorem inX1 : ∀ w ∈ wsX10, w ∈ lw_tbl := by decide +kernel
theorem inX2 : ∀ w ∈ wsX20, w ∈ lw_tbl := by decide +kernel
theorem inX3 : ∀ w ∈ wsX30, w ∈ lw_tbl := by decide +kernel
theorem inX4 : ∀ w ∈ wsX40, w ∈ lw_tbl := by decide +kernel
theorem inX5 : ∀ w ∈ wsX50, w ∈ lw_tbl := by decide +kernel
theorem inX6 : ∀ w ∈ wsX60, w ∈ lw_tbl := by decide +kernel
theorem inX7 : ∀ w ∈ wsX70, w ∈ lw_tbl := by decide +kernel
theorem inX8 : ∀ w ∈ wsX80, w ∈ lw_tbl := by decide +kernel
theorem inX9 : ∀ w ∈ wsX90, w ∈ lw_tbl := by decide +kernel
theorem inX10 : ∀ w ∈ wsX100, w ∈ lw_tbl := by decide +kernel
theorem inX11 : ∀ w ∈ wsX110, w ∈ lw_tbl := by decide +kernel
end
section
/-! ===== which fields are references ===== -/
def FKs : List (List Nat) := [[1], [1, 1, 0, 0, 0], [1, 1, 1, 1, 0, 0, 0, 0], [1, 1], [1, 0, 0, 1, 1, 1, 1, 1, 0, 0, 0, 0, 0, 0, 0, 0], [1, 1, 0, 0], [1, 1, 0, 0, 1, 1, 0, 0], [1, 0], [1, 0, 1], [0, 0, 1], [1, 1, 1, 1, 1, 1, 1, 0], [1, 1, 1, 1, 0, 0, 0, 0, 0, 0, 0, 0, 1, 1, 1, 0, 0, 1, 1, 1, 1, 1, 1]]
def FK (ci : Nat) : List Nat := FKs.getD ci []
/-- the tables' words that stay as they are -/
def tg : List Cond := lw_tbl.filter goodWord
theorem mem_tg {w : Cond} (h : w ∈ lw_tbl) (hg : goodWord w = true) : w ∈ tg := List.mem_filter.mpr ⟨h, hg⟩
theorem tg_good {w : Cond} (h : w ∈ tg) : (w.onTables && w.keeps) = true ∨ ∃ ty, w = .arrayClass ty := good_of_word (List.mem_filter.mp h).2
theorem tg_in {y : MethodName} {cc : ByteArray} {nL : Nat} {ret : Option FieldType} (h : Cond.code y cc nL ret ∈ tg) : GoodIn tg (Cond.code y cc nL ret :: tg) := fun w hw => by
  rcases List.mem_cons.mp hw with e | e
  · subst e; exact ⟨h, tg_good h⟩
  · exact ⟨e, tg_good e⟩
def isNest : Cond → Bool
  | .methodLinkNest .. => true
  | _ => false
def AOt (ty : FieldType) (U : State) : Prop := (Cond.arrayOver ty).before #[] U = true
theorem AOt.movedO {C : String} {u U : State} (hvm : u.vm.Alike U.vm) (h : AOt (.object C) u) : AOt (.object C) U := va_AO.moved hvm h
theorem AOt.movedA {ty : FieldType} {u U : State} (hvm : u.vm.Alike U.vm) (h : AOt (.array ty) u) : AOt (.array ty) U := sorry
/-! ===== a thin logic over the kit: the whole heap from the law's start on as one world ===== -/
abbrev wKd : Type := Nat → Nat × Nat
abbrev wIn : Type := Nat → Nat → Int32
abbrev wLn : Type := Nat → Nat → Int64
abbrev wRf : Type := Nat → Nat → Option Nat
def zo (z : Nat) (r : Option Nat) : Option Nat := r.map (fun j => z + j)
def cv (z : Nat) (v : Value) : Value := match v with
  | .ref a => .ref (z + a)
  | .int x => .int x
  | .long x => .long x
  | .float x => .float x
  | .double x => .double x
  | .null => .null
  | .retAddr x => .ref x
theorem cv_cat (z : Nat) (v : Value) : (cv z v).category = v.category := by cases v <;> rfl
theorem cv_rf (z : Nat) (r : Option Nat) : va_rf (zo z r) = cv z (va_rf r) := by cases r <;> rfl
/-- a cell's new value -/
def up2 {α : Type} (f : Nat → Nat → α) (i k : Nat) (x : α) : Nat → Nat → α := fun a b => if a = i ∧ b = k then x else f a b
/-- a cell's new contents -/
def up1 {α : Type} (f : Nat → α) (i : Nat) (x : α) : Nat → α := fun a => if a = i then x else f a
theorem up2_s {α : Type} (f : Nat → Nat → α) (i k : Nat) (x : α) : up2 f i k x i k = x := by simp [up2]
theorem up2_n {α : Type} (f : Nat → Nat → α) (i k : Nat) (x : α) {a b : Nat} (h : ¬ (a = i ∧ b = k)) : up2 f i k x a b = f a b := by simp [up2, h]
theorem up1_s {α : Type} (f : Nat → α) (i : Nat) (x : α) : up1 f i x i = x := by simp [up1]
theorem up1_n {α : Type} (f : Nat → α) (i : Nat) (x : α) {a : Nat} (h : ¬ a = i) : up1 f i x a = f a := by simp [up1, h]
/-- which fields of a class are references: 1, and which are numbers: 0 -/
def flds (z : Nat) (I : Nat → Int32) (R : Nat → Option Nat) : List Nat → Nat → List Value
  | [], _ => []
  | f :: l, k => (if f = 0 then .int (I k) else va_rf (zo z (R k))) :: flds z I R l (k + 1)
theorem flds_get (z : Nat) (I : Nat → Int32) (R : Nat → Option Nat) : ∀ (l : List Nat) (k j f : Nat), l[j]? = some f → (flds z I R l k)[j]? = some (if f = 0 then .int (I (k + j)) else va_rf (zo z (R (k + j))))
  | [], _, _, _, h => by simp at h
  | g :: l, k, 0, f, h => by
    simp at h
    subst h
    simp [flds]
  | g :: l, k, j + 1, f, h => by
    have h1 := flds_get z I R l (k + 1) j f (by simpa using h)
    simp only [flds, List.getElem?_cons_succ]
    rw [h1, Nat.add_right_comm, Nat.add_assoc]
theorem flds_len (z : Nat) (I : Nat → Int32) (R : Nat → Option Nat) : ∀ (l : List Nat) (k : Nat), (flds z I R l k).length = l.length
  | [], _ => rfl
  | g :: l, k => by simp [flds, flds_len z I R l (k + 1)]
theorem flds_eqI (z : Nat) (I I' : Nat → Int32) (R R' : Nat → Option Nat) : ∀ (l : List Nat) (k : Nat), (∀ a, k ≤ a → I' a = I a) → (∀ a, k ≤ a → R' a = R a) → flds z I' R' l k = flds z I R l k
  | [], _, _, _ => rfl
  | g :: l, k, h, hr => by
    simp only [flds]
    rw [h k (Nat.le_refl k), hr k (Nat.le_refl k), flds_eqI z I I' R R' l (k + 1) (fun a q => h a (by omega)) (fun a q => hr a (by omega))]
theorem flds_setI (z : Nat) (I I' : Nat → Int32) (R : Nat → Option Nat) (x : Int32) : ∀ (l : List Nat) (k j : Nat), l[j]? = some 0 → I' (k + j) = x → (∀ a, a ≠ k + j → I' a = I a) → (flds z I R l k).set j (.int x) = flds z I' R l k
  | [], _, _, h, _, _ => by simp at h
  | g :: l, k, 0, h, h1, h2 => by
    simp at h
    subst h
    simp only [flds, List.set_cons_zero]
    rw [flds_eqI z I I' R R l (k + 1) (fun a q => h2 a (by omega)) (fun _ _ => rfl)]
    have h3 : I' k = x := by simpa using h1
    rw [h3]; rfl
  | g :: l, k, j + 1, h, h1, h2 => by
    simp only [flds, List.set_cons_succ]
    rw [flds_setI z I I' R x l (k + 1) j (by simpa using h) (by rw [← h1]; congr 1; omega) (fun a q => h2 a (by omega)), h2 k (by omega)]
theorem flds_setR (z : Nat) (I : Nat → Int32) (R R' : Nat → Option Nat) (x : Option Nat) : ∀ (l : List Nat) (k j : Nat), l[j]? = some 1 → R' (k + j) = x → (∀ a, a ≠ k + j → R' a = R a) → (flds z I R l k).set j (va_rf (zo z x)) = flds z I R' l k
  | [], _, _, h, _, _ => by simp at h
  | g :: l, k, 0, h, h1, h2 => by
    simp at h
    subst h
    simp only [flds, List.set_cons_zero]
    rw [flds_eqI z I I R R' l (k + 1) (fun _ _ => rfl) (fun a q => h2 a (by omega))]
    have h3 : R' k = x := by simpa using h1
    rw [h3]; rfl
  | g :: l, k, j + 1, h, h1, h2 => by
    simp only [flds, List.set_cons_succ]
    rw [flds_setR z I R R' x l (k + 1) j (by simpa using h) (by rw [← h1]; congr 1; omega) (fun a q => h2 a (by omega)), h2 k (by omega)]
/-- a cell of the world: kind (class number, 0) is an object; (100 int, 101 byte, 102 boolean, 103 long, 104 the class's array of Matters, 105 int[][], length) an array -/
def cel (cT : Nat → ClassId) (z : Nat) (κ : Nat × Nat) (I : Nat → Int32) (L : Nat → Int64) (R : Nat → Option Nat) : va_E :=
  if κ.1 < 100 then .inr (κ.1, flds z I R (FK κ.1) 0)
  else if κ.1 < 103 then .inl (cT κ.1, κ.2, .inl I)
  else if κ.1 = 103 then .inl (cT κ.1, κ.2, .inr (.inl L))
  else .inl (cT κ.1, κ.2, .inr (.inr (.inr (.inr (fun j => zo z (R j))))))
def wl (cT : Nat → ClassId) (z n : Nat) (K : wKd) (I : wIn) (L : wLn) (R : wRf) : va_W := (List.range n).map (fun i => (z + i, cel cT z (K i) (I i) (L i) (R i)))
theorem wl_get {cT : Nat → ClassId} {z n i : Nat} {K : wKd} {I : wIn} {L : wLn} {R : wRf} (h : i < n) : (wl cT z n K I L R)[i]? = some (z + i, cel cT z (K i) (I i) (L i) (R i)) := by
  simp [wl, h]
theorem wl_len {cT : Nat → ClassId} {z n : Nat} {K : wKd} {I : wIn} {L : wLn} {R : wRf} : (wl cT z n K I L R).length = n := by simp [wl]
theorem wl_at {cT : Nat → ClassId} {z n k : Nat} {K : wKd} {I : wIn} {L : wLn} {R : wRf} {q : Nat × va_E} (h : (wl cT z n K I L R)[k]? = some q) : k < n ∧ q = (z + k, cel cT z (K k) (I k) (L k) (R k)) := by
  have hk : k < n := by
    have := (List.getElem?_eq_some_iff.mp h).1
    rwa [wl_len] at this
  rw [wl_get hk] at h
  exact ⟨hk, (Option.some.inj h).symm⟩
theorem wl_D {cT : Nat → ClassId} {z n : Nat} {K : wKd} {I : wIn} {L : wLn} {R : wRf} : va_D (fun q => z ≤ q) (wl cT z n K I L R) := by
  refine ⟨fun i j p q hi hj h => ?_, fun k q hk => ?_⟩
  · obtain ⟨-, rfl⟩ := wl_at hi
    obtain ⟨-, rfl⟩ := wl_at hj
    have h : z + i = z + j := h
    omega
  · obtain ⟨-, rfl⟩ := wl_at hk
    exact Nat.le_add_right z k
theorem wl_set {cT : Nat → ClassId} {z n i : Nat} {K K' : wKd} {I I' : wIn} {L L' : wLn} {R R' : wRf} {x : va_E} (hx : cel cT z (K' i) (I' i) (L' i) (R' i) = x) (ho : ∀ j, j ≠ i → K' j = K j ∧ I' j = I j ∧ L' j = L j ∧ R' j = R j) : (wl cT z n K I L R).set i (z + i, x) = wl cT z n K' I' L' R' := by
  apply List.ext_getElem?
  intro k
  rw [List.getElem?_set]
  by_cases hk : k < n
  · by_cases e : i = k
    · subst e
      rw [if_pos rfl, wl_len, if_pos hk, wl_get hk, hx]
    · rw [if_neg e, wl_get hk, wl_get hk]
      obtain ⟨h1, h2, h3, h4⟩ := ho k (Ne.symm e)
      rw [h1, h2, h3, h4]
  · have h1 : (wl cT z n K' I' L' R')[k]? = none := by simp [wl_len]; omega
    have h2 : (wl cT z n K I L R)[k]? = none := by simp [wl_len]; omega
    rw [h1, h2]
    by_cases e : i = k
    · subst e
      simp [wl_len, hk]
    · simp [e]
theorem wl_push {cT : Nat → ClassId} {z n : Nat} {K K' : wKd} {I I' : wIn} {L L' : wLn} {R R' : wRf} (ho : ∀ j, j < n → K' j = K j ∧ I' j = I j ∧ L' j = L j ∧ R' j = R j) : wl cT z (n + 1) K' I' L' R' = wl cT z n K I L R ++ [(z + n, cel cT z (K' n) (I' n) (L' n) (R' n))] := by
  unfold wl
  rw [List.range_succ, List.map_append]
  congr 1
  apply List.map_congr_left
  intro a ha
  obtain ⟨h1, h2, h3, h4⟩ := ho a (List.mem_range.mp ha)
  rw [h1, h2, h3, h4]
def tysOf (cT : Nat → ClassId) : List (ClassId × FieldType) := [(cT 100, .int), (cT 101, .byte), (cT 102, .boolean), (cT 103, .long), (cT 104, .object RX2), (cT 105, .array .int)]
/-- the heap holds the world -/
def HW (D : va_G) (cT : Nat → ClassId) (z n : Nat) (K : wKd) (I : wIn) (L : wLn) (R : wRf) (H : Heap) : Prop := H.size = z + n ∧ (∀ i, n ≤ i → K i = (999, 0)) ∧ va_P D vwCl (wl cT z n K I L R) H
theorem HW.lt {D : va_G} {cT : Nat → ClassId} {z n : Nat} {K : wKd} {I : wIn} {L : wLn} {R : wRf} {H : Heap} (h : HW D cT z n K I L R H) {i : Nat} {κ : Nat × Nat} (hk : K i = κ) (hn : κ.1 ≠ 999) : i < n := by
  rcases Nat.lt_or_ge i n with q | q
  · exact q
  · rw [h.2.1 i q] at hk
    subst hk
    exact absurd rfl hn
/-- what the tables say of the world's classes -/
def KX (D : va_G) (cT : Nat → ClassId) (U : State) : Prop := va_K D vwCl (tysOf cT) U ∧ (∀ w ∈ lw_tbl, isNest w = true → va_Nw w U) ∧ AOt (.object RX2) U ∧ AOt (.array .int) U
theorem KX.warm {D : va_G} {cT : Nat → ClassId} {s U : State} (hW : s.WarmedH U.vm) (h : KX D cT s) : KX D cT U := ⟨va_K.moved hW.alike h.1, fun w hw hn => by
  cases w <;> first | exact va_Nw.warmM hW (h.2.1 _ hw hn) | (simp [isNest] at hn), h.2.2.1.movedO hW.alike, h.2.2.2.movedA hW.alike⟩
/-- all that stays the same while a method runs -/
abbrev Gm : Type := Program × Launch × Env × Room × State × MethodId × Array Value × List Frame × Method × Code × va_G × (Nat → ClassId) × Nat
abbrev gp (Γ : Gm) : Program := Γ.1
abbrev gl (Γ : Gm) : Launch := Γ.2.1
abbrev ge (Γ : Gm) : Env := Γ.2.2.1
abbrev gR (Γ : Gm) : Room := Γ.2.2.2.1
abbrev gs (Γ : Gm) : State := Γ.2.2.2.2.1
abbrev gm (Γ : Gm) : MethodId := Γ.2.2.2.2.2.1
abbrev ga (Γ : Gm) : Array Value := Γ.2.2.2.2.2.2.1
abbrev gb (Γ : Gm) : List Frame := Γ.2.2.2.2.2.2.2.1
abbrev gme (Γ : Gm) : Method := Γ.2.2.2.2.2.2.2.2.1
abbrev gc (Γ : Gm) : Code := Γ.2.2.2.2.2.2.2.2.2.1
abbrev gD (Γ : Gm) : va_G := Γ.2.2.2.2.2.2.2.2.2.2.1
abbrev gT (Γ : Gm) : Nat → ClassId := Γ.2.2.2.2.2.2.2.2.2.2.2.1
abbrev gz (Γ : Gm) : Nat := Γ.2.2.2.2.2.2.2.2.2.2.2.2
/-- the method's own facts: its class, code, locals, answer, room -/
def Cx (Γ : Gm) (own : String) (cc : ByteArray) (nL : Nat) (ret : Option FieldType) (rm : Room) (nm : String) : Prop :=
  (gp Γ).tables.exec = Jvm.exec ∧ (gc Γ).code = cc ∧ (gme Γ).sig.returnType = ret ∧ (gc Γ).maxLocals = nL ∧ (gs Γ).vm.findClass own = some (gm Γ).cls ∧ (∀ w ∈ tg, w.before (ga Γ) (gs Γ) = true) ∧ (gme Γ).locks = false ∧ KX (gD Γ) (gT Γ) (gs Γ) ∧ gR Γ = rm ∧ (gme Γ).name = nm ∧ gz Γ ≤ (gs Γ).heap.size
/-- locals by their places -/
def lps (z : Nat) : Nat → List (Option Value) → List (Nat × Value)
  | _, [] => []
  | k, none :: l => lps z (k + 1) l
  | k, some v :: l => (k, cv z v) :: lps z (k + 1) l
theorem lps_mem (z : Nat) : ∀ (l : List (Option Value)) (k : Nat) (q : Nat × Value), q ∈ lps z k l ↔ ∃ (j : Nat) (v : Value), l[j]? = some (some v) ∧ q = (k + j, cv z v)
  | [], k, q => by simp [lps]
  | none :: l, k, q => by
    simp only [lps]
    rw [lps_mem z l (k + 1) q]
    constructor
    · rintro ⟨j, v, h1, h2⟩
      exact ⟨j + 1, v, by simpa using h1, by rw [h2, Nat.add_assoc, Nat.add_comm 1 j]⟩
    · rintro ⟨j, v, h1, h2⟩
      cases j with
      | zero => simp at h1
      | succ j => exact ⟨j, v, by simpa using h1, by rw [h2, Nat.add_assoc, Nat.add_comm 1 j]⟩
  | some w :: l, k, q => by
    simp only [lps, List.mem_cons]
    rw [lps_mem z l (k + 1) q]
    constructor
    · rintro (h | ⟨j, v, h1, h2⟩)
      · exact ⟨0, w, by simp, by simpa using h⟩
      · exact ⟨j + 1, v, by simpa using h1, by rw [h2, Nat.add_assoc, Nat.add_comm 1 j]⟩
    · rintro ⟨j, v, h1, h2⟩
      cases j with
      | zero =>
        simp at h1
        subst h1
        exact Or.inl (by simpa using h2)
      | succ j => exact Or.inr ⟨j, v, by simpa using h1, by rw [h2, Nat.add_assoc, Nat.add_comm 1 j]⟩
def lh (z : Nat) (ls : Array Slot) (nL : Nat) (lo : List (Option Value)) : Prop := lv_has ls nL (lps z 0 lo)
theorem lh.get {z : Nat} {ls : Array Slot} {nL : Nat} {lo : List (Option Value)} (h : lh z ls nL lo) {k : Nat} {v : Value} (hk : lo[k]? = some (some v)) : ls[k]? = some (.val (cv z v)) := by
  have := h.2.2 (k, cv z v) ((lps_mem z lo 0 _).mpr ⟨k, v, hk, by simp⟩)
  exact this
theorem lh.less {z : Nat} {ls : Array Slot} {nL : Nat} {lo lo' : List (Option Value)} (h : lh z ls nL lo) (hs : ∀ (j : Nat) (v : Value), lo'[j]? = some (some v) → lo[j]? = some (some v)) : lh z ls nL lo' := ⟨h.1, h.2.1, fun q hq => by
  obtain ⟨j, v, h1, rfl⟩ := (lps_mem z lo' 0 q).mp hq
  exact h.2.2 _ ((lps_mem z lo 0 _).mpr ⟨j, v, hs j v h1, rfl⟩)⟩
def noL (lo : List (Option Value)) : Bool := lo.all (fun o => match o with
  | some (.long _) => false
  | some (.double _) => false
  | _ => true)
theorem noL_at {lo : List (Option Value)} (h : noL lo = true) {j : Nat} {v : Value} (hj : lo[j]? = some (some v)) : v.category ≠ 2 := by
  have := List.all_eq_true.mp h (some v) (List.mem_of_getElem? hj)
  cases v <;> simp_all [Value.category]
theorem lh.sto {z : Nat} {ls ls' : Array Slot} {nL i : Nat} {lo : List (Option Value)} {v : Value} (hn : noL lo = true) (h : lv_has ls' nL ((i, cv z v) :: (lps z 0 lo).filter (fun q => !(q.1 == i) && !(q.1 + 1 == i && q.2.category == 2)))) : lh z ls' nL (lo.set i (some v)) := by
  refine ⟨h.1, h.2.1, fun q hq => ?_⟩
  obtain ⟨j, w, h1, rfl⟩ := (lps_mem z _ 0 q).mp hq
  apply h.2.2
  rw [List.getElem?_set] at h1
  by_cases e : i = j
  · subst e
    rw [if_pos rfl] at h1
    split at h1
    · simp at h1
      subst h1
      simp
    · simp at h1
  · rw [if_neg e] at h1
    refine List.mem_cons_of_mem _ (List.mem_filter.mpr ⟨(lps_mem z lo 0 _).mpr ⟨j, w, h1, rfl⟩, ?_⟩)
    have := noL_at hn h1
    simp [cv_cat, this]
    omega
theorem lh.stoL {z : Nat} {ls ls' : Array Slot} {nL i : Nat} {lo : List (Option Value)} {v : Value} (hn : noL lo = true) (h : lv_has ls' nL ((i, cv z v) :: (lps z 0 lo).filter (fun q => !(q.1 == i) && (!(q.1 == i + 1) && !(q.1 + 1 == i && q.2.category == 2))))) : lh z ls' nL ((lo.set i (some v)).set (i + 1) none) := by
  refine ⟨h.1, h.2.1, fun q hq => ?_⟩
  obtain ⟨j, w, h1, rfl⟩ := (lps_mem z _ 0 q).mp hq
  apply h.2.2
  rw [List.getElem?_set] at h1
  by_cases e2 : i + 1 = j
  · rw [if_pos e2] at h1
    split at h1 <;> simp at h1
  rw [if_neg e2, List.getElem?_set] at h1
  by_cases e : i = j
  · subst e
    rw [if_pos rfl] at h1
    split at h1
    · simp at h1
      subst h1
      simp
    · simp at h1
  · rw [if_neg e] at h1
    refine List.mem_cons_of_mem _ (List.mem_filter.mpr ⟨(lps_mem z lo 0 _).mpr ⟨j, w, h1, rfl⟩, ?_⟩)
    have := noL_at hn h1
    simp [cv_cat, this]
    omega
/-- at pc, with these locals, this stack, this world: the machine comes to a state with Q -/
def wp (Γ : Gm) (cells slots : Nat) (Q : State → Prop) (pc : Nat) (lo : List (Option Value)) (st : List Value) (n : Nat) (K : wKd) (I : wIn) (L : wLn) (R : wRf) : Prop :=
  ∀ (H : Heap) (locs : List Loc) (ls : Array Slot), HW (gD Γ) (gT Γ) (gz Γ) n K I L R H → va_S (fun q => gz Γ ≤ q) (gs Γ).heap H locs → lh (gz Γ) ls (gc Γ).maxLocals lo → W (gp Γ) (gl Γ) (ge Γ) (gR Γ) (gs Γ) (gm Γ) (ga Γ) (gb Γ) (gme Γ) (gc Γ) H locs cells slots Q (F0 (gm Γ) pc ls (st.map (cv (gz Γ))))
end
section
section RULES
variable {Γ : Gm} {own : String} {cc : ByteArray} {nL : Nat} {ret : Option FieldType} {rm : Room} {nm : String} {cells slots pc pc2 : Nat} {Q : State → Prop} {lo : List (Option Value)} {st : List Value} {n : Nat} {K : wKd} {I : wIn} {L : wLn} {R : wRf}
theorem w_iadd (C : Cx Γ own cc nL ret rm nm) {x y : Int32} (hd : decode cc pc = .ok (.iadd, 1))  (hp : pc + 1 = pc2) (k : wp Γ cells slots Q pc2 lo (.int (x + y) :: st) n K I L R) : wp Γ cells slots Q pc lo (.int y :: .int x :: st) n K I L R := by
  subst hp; intro H locs ls hW hS hl
  exact lv_iadd C.1 C.2.1 hd (k H locs ls hW hS hl)
theorem w_isub (C : Cx Γ own cc nL ret rm nm) {x y : Int32} (hd : decode cc pc = .ok (.isub, 1))  (hp : pc + 1 = pc2) (k : wp Γ cells slots Q pc2 lo (.int (x - y) :: st) n K I L R) : wp Γ cells slots Q pc lo (.int y :: .int x :: st) n K I L R := by
  subst hp; intro H locs ls hW hS hl
  exact lv_isub C.1 C.2.1 hd (k H locs ls hW hS hl)
theorem w_imul (C : Cx Γ own cc nL ret rm nm) {x y : Int32} (hd : decode cc pc = .ok (.imul, 1))  (hp : pc + 1 = pc2) (k : wp Γ cells slots Q pc2 lo (.int (x * y) :: st) n K I L R) : wp Γ cells slots Q pc lo (.int y :: .int x :: st) n K I L R := by
  subst hp; intro H locs ls hW hS hl
  exact lv_imul C.1 C.2.1 hd (k H locs ls hW hS hl)
theorem w_iand (C : Cx Γ own cc nL ret rm nm) {x y : Int32} (hd : decode cc pc = .ok (.iand, 1))  (hp : pc + 1 = pc2) (k : wp Γ cells slots Q pc2 lo (.int (x &&& y) :: st) n K I L R) : wp Γ cells slots Q pc lo (.int y :: .int x :: st) n K I L R := by
  subst hp; intro H locs ls hW hS hl
  exact lv_iand C.1 C.2.1 hd (k H locs ls hW hS hl)
theorem w_ior (C : Cx Γ own cc nL ret rm nm) {x y : Int32} (hd : decode cc pc = .ok (.ior, 1))  (hp : pc + 1 = pc2) (k : wp Γ cells slots Q pc2 lo (.int (x ||| y) :: st) n K I L R) : wp Γ cells slots Q pc lo (.int y :: .int x :: st) n K I L R := by
  subst hp; intro H locs ls hW hS hl
  exact lv_ior C.1 C.2.1 hd (k H locs ls hW hS hl)
theorem w_ishl (C : Cx Γ own cc nL ret rm nm) {x y : Int32} (hd : decode cc pc = .ok (.ishl, 1))  (hp : pc + 1 = pc2) (k : wp Γ cells slots Q pc2 lo (.int (x <<< (y &&& 31)) :: st) n K I L R) : wp Γ cells slots Q pc lo (.int y :: .int x :: st) n K I L R := by
  subst hp; intro H locs ls hW hS hl
  exact lv_ishl C.1 C.2.1 hd (k H locs ls hW hS hl)
theorem w_ishr (C : Cx Γ own cc nL ret rm nm) {x y : Int32} (hd : decode cc pc = .ok (.ishr, 1))  (hp : pc + 1 = pc2) (k : wp Γ cells slots Q pc2 lo (.int (x >>> (y &&& 31)) :: st) n K I L R) : wp Γ cells slots Q pc lo (.int y :: .int x :: st) n K I L R := by
  subst hp; intro H locs ls hW hS hl
  exact lv_ishr C.1 C.2.1 hd (k H locs ls hW hS hl)
theorem w_idiv (C : Cx Γ own cc nL ret rm nm) {x y : Int32} (hd : decode cc pc = .ok (.idiv, 1)) (hne : ¬ y = 0) (hp : pc + 1 = pc2) (k : wp Γ cells slots Q pc2 lo (.int (x / y) :: st) n K I L R) : wp Γ cells slots Q pc lo (.int y :: .int x :: st) n K I L R := by
  subst hp; intro H locs ls hW hS hl
  exact lv_idiv C.1 C.2.1 hd hne (k H locs ls hW hS hl)
theorem w_irem (C : Cx Γ own cc nL ret rm nm) {x y : Int32} (hd : decode cc pc = .ok (.irem, 1)) (hne : ¬ y = 0) (hp : pc + 1 = pc2) (k : wp Γ cells slots Q pc2 lo (.int (x - x / y * y) :: st) n K I L R) : wp Γ cells slots Q pc lo (.int y :: .int x :: st) n K I L R := by
  subst hp; intro H locs ls hW hS hl
  exact lv_irem C.1 C.2.1 hd hne (k H locs ls hW hS hl)
theorem w_ineg (C : Cx Γ own cc nL ret rm nm) {x : Int32} (hd : decode cc pc = .ok (.ineg, 1))  (hp : pc + 1 = pc2) (k : wp Γ cells slots Q pc2 lo (.int (-x) :: st) n K I L R) : wp Γ cells slots Q pc lo (.int x :: st) n K I L R := by
  subst hp; intro H locs ls hW hS hl
  exact lv_ineg C.1 C.2.1 hd (k H locs ls hW hS hl)
theorem w_iushr (C : Cx Γ own cc nL ret rm nm) {x y : Int32} (hd : decode cc pc = .ok (.iushr, 1))  (hp : pc + 1 = pc2) (k : wp Γ cells slots Q pc2 lo (.int ((x.toUInt32 >>> (y.toUInt32 &&& Int32.toUInt32 31)).toInt32) :: st) n K I L R) : wp Γ cells slots Q pc lo (.int y :: .int x :: st) n K I L R := by
  subst hp; intro H locs ls hW hS hl
  exact lv_iushr C.1 C.2.1 hd rfl (k H locs ls hW hS hl)
theorem w_ladd (C : Cx Γ own cc nL ret rm nm) {x y : Int64} (hd : decode cc pc = .ok (.ladd, 1))  (hp : pc + 1 = pc2) (k : wp Γ cells slots Q pc2 lo (.long (x + y) :: st) n K I L R) : wp Γ cells slots Q pc lo (.long y :: .long x :: st) n K I L R := by
  subst hp; intro H locs ls hW hS hl
  exact lv_ladd C.1 C.2.1 hd (k H locs ls hW hS hl)
theorem w_lcmp (C : Cx Γ own cc nL ret rm nm) {x y : Int64} (hd : decode cc pc = .ok (.lcmp, 1))  (hp : pc + 1 = pc2) (k : wp Γ cells slots Q pc2 lo (.int (lg_cmp x y) :: st) n K I L R) : wp Γ cells slots Q pc lo (.long y :: .long x :: st) n K I L R := by
  subst hp; intro H locs ls hW hS hl
  exact W.lcmp C.1 C.2.1 hd (k H locs ls hW hS hl)
theorem w_i2l (C : Cx Γ own cc nL ret rm nm) {x : Int32} (hd : decode cc pc = .ok (.i2l, 1))  (hp : pc + 1 = pc2) (k : wp Γ cells slots Q pc2 lo (.long x.toInt64 :: st) n K I L R) : wp Γ cells slots Q pc lo (.int x :: st) n K I L R := by
  subst hp; intro H locs ls hW hS hl
  exact lv_i2l C.1 C.2.1 hd rfl (k H locs ls hW hS hl)
theorem w_i2b (C : Cx Γ own cc nL ret rm nm) {x : Int32} (hd : decode cc pc = .ok (.i2b, 1))  (hp : pc + 1 = pc2) (k : wp Γ cells slots Q pc2 lo (.int x.toInt8.toInt32 :: st) n K I L R) : wp Γ cells slots Q pc lo (.int x :: st) n K I L R := by
  subst hp; intro H locs ls hW hS hl
  exact lv_i2b C.1 C.2.1 hd rfl (k H locs ls hW hS hl)
theorem w_iconst (C : Cx Γ own cc nL ret rm nm) {i : Int} {v : Int32} (hd : decode cc pc = .ok (.iconst i, 1)) (hv : Int32.ofInt i = v) (hp : pc + 1 = pc2) (k : wp Γ cells slots Q pc2 lo (.int v :: st) n K I L R) : wp Γ cells slots Q pc lo (st) n K I L R := by
  subst hp; intro H locs ls hW hS hl
  exact lv_iconst C.1 C.2.1 hd hv (k H locs ls hW hS hl)
theorem w_lconst (C : Cx Γ own cc nL ret rm nm) {i : Fin 2} {v : Int64} (hd : decode cc pc = .ok (.lconst i, 1)) (hv : Int64.ofNat (i : Nat) = v) (hp : pc + 1 = pc2) (k : wp Γ cells slots Q pc2 lo (.long v :: st) n K I L R) : wp Γ cells slots Q pc lo (st) n K I L R := by
  subst hp; intro H locs ls hW hS hl
  exact lv_lconst C.1 C.2.1 hd hv (k H locs ls hW hS hl)
theorem w_bipush (C : Cx Γ own cc nL ret rm nm) {i : Int} {v : Int32} (hd : decode cc pc = .ok (.bipush i, 2)) (hv : (Int8.ofInt i).toInt32 = v) (hp : pc + 2 = pc2) (k : wp Γ cells slots Q pc2 lo (.int v :: st) n K I L R) : wp Γ cells slots Q pc lo (st) n K I L R := by
  subst hp; intro H locs ls hW hS hl
  exact lv_bipush C.1 C.2.1 hd hv (k H locs ls hW hS hl)
theorem w_sipush (C : Cx Γ own cc nL ret rm nm) {i : Int} {v : Int32} (hd : decode cc pc = .ok (.sipush i, 3)) (hv : (Int16.ofInt i).toInt32 = v) (hp : pc + 3 = pc2) (k : wp Γ cells slots Q pc2 lo (.int v :: st) n K I L R) : wp Γ cells slots Q pc lo (st) n K I L R := by
  subst hp; intro H locs ls hW hS hl
  exact lv_sipush C.1 C.2.1 hd hv (k H locs ls hW hS hl)
theorem w_ldc (C : Cx Γ own cc nL ret rm nm) {i : Nat} {v : Int32} (hd : decode cc pc = .ok (.ldc i, 2)) (hc : Cond.constant own i v ∈ tg) (hp : pc + 2 = pc2) (k : wp Γ cells slots Q pc2 lo (.int v :: st) n K I L R) : wp Γ cells slots Q pc lo (st) n K I L R := by
  subst hp; intro H locs ls hW hS hl
  exact lv_ldc C.1 C.2.1 C.2.2.2.2.1 (C.2.2.2.2.2.1 _ hc) hd (k H locs ls hW hS hl)
theorem w_ldc2 (C : Cx Γ own cc nL ret rm nm) {i : Nat} {v : Int64} (hd : decode cc pc = .ok (.ldc2_w i, 3)) (hc : Cond.constantLong own i v ∈ tg) (hp : pc + 3 = pc2) (k : wp Γ cells slots Q pc2 lo (.long v :: st) n K I L R) : wp Γ cells slots Q pc lo (st) n K I L R := by
  subst hp; intro H locs ls hW hS hl
  exact lv_ldc2 C.1 C.2.1 C.2.2.2.2.1 (C.2.2.2.2.2.1 _ hc) hd (k H locs ls hW hS hl)
theorem w_iload_n (C : Cx Γ own cc nL ret rm nm) {i : Fin 4} {x : Int32} (hd : decode cc pc = .ok (.iload_n i, 1)) (hv : lo[(i : Nat)]? = some (some (.int x))) (hp : pc + 1 = pc2) (k : wp Γ cells slots Q pc2 lo (.int x :: st) n K I L R) : wp Γ cells slots Q pc lo (st) n K I L R := by
  subst hp; intro H locs ls hW hS hl
  exact lv_iload_n C.1 C.2.1 hd rfl (hl.get hv) (k H locs ls hW hS hl)
theorem w_iload (C : Cx Γ own cc nL ret rm nm) {i : Nat} {x : Int32} (hd : decode cc pc = .ok (.iload i, 2)) (hv : lo[i]? = some (some (.int x))) (hp : pc + 2 = pc2) (k : wp Γ cells slots Q pc2 lo (.int x :: st) n K I L R) : wp Γ cells slots Q pc lo (st) n K I L R := by
  subst hp; intro H locs ls hW hS hl
  exact lv_iload C.1 C.2.1 hd (hl.get hv) (k H locs ls hW hS hl)
theorem w_lload_n (C : Cx Γ own cc nL ret rm nm) {i : Fin 4} {x : Int64} (hd : decode cc pc = .ok (.lload_n i, 1)) (hv : lo[(i : Nat)]? = some (some (.long x))) (hp : pc + 1 = pc2) (k : wp Γ cells slots Q pc2 lo (.long x :: st) n K I L R) : wp Γ cells slots Q pc lo (st) n K I L R := by
  subst hp; intro H locs ls hW hS hl
  exact lv_lload_n C.1 C.2.1 hd rfl (hl.get hv) (k H locs ls hW hS hl)
theorem w_aload_n (C : Cx Γ own cc nL ret rm nm) {i : Fin 4} {x : Nat} (hd : decode cc pc = .ok (.aload_n i, 1)) (hv : lo[(i : Nat)]? = some (some (.ref x))) (hp : pc + 1 = pc2) (k : wp Γ cells slots Q pc2 lo (.ref x :: st) n K I L R) : wp Γ cells slots Q pc lo (st) n K I L R := by
  subst hp; intro H locs ls hW hS hl
  exact lv_aload_n C.1 C.2.1 hd rfl (hl.get hv) (k H locs ls hW hS hl)
theorem w_aload_nx (C : Cx Γ own cc nL ret rm nm) {i : Fin 4} {x : Nat} (hd : decode cc pc = .ok (.aload_n i, 1)) (hv : lo[(i : Nat)]? = some (some (.retAddr x))) (hp : pc + 1 = pc2) (k : wp Γ cells slots Q pc2 lo (.retAddr x :: st) n K I L R) : wp Γ cells slots Q pc lo (st) n K I L R := by
  subst hp; intro H locs ls hW hS hl
  exact lv_aload_n C.1 C.2.1 hd rfl (hl.get hv) (k H locs ls hW hS hl)
theorem w_dup (C : Cx Γ own cc nL ret rm nm) {v : Value} (hd : decode cc pc = .ok (.dup, 1)) (hc : v.category = 1) (hp : pc + 1 = pc2) (k : wp Γ cells slots Q pc2 lo (v :: v :: st) n K I L R) : wp Γ cells slots Q pc lo (v :: st) n K I L R := by
  subst hp; intro H locs ls hW hS hl
  exact lv_dup C.1 C.2.1 hd ((cv_cat _ v).trans hc) (k H locs ls hW hS hl)
theorem w_dup2 (C : Cx Γ own cc nL ret rm nm) {v u : Value} (hd : decode cc pc = .ok (.dup2, 1)) (hc : v.category = 1) (hc2 : u.category = 1) (hp : pc + 1 = pc2) (k : wp Γ cells slots Q pc2 lo (v :: u :: v :: u :: st) n K I L R) : wp Γ cells slots Q pc lo (v :: u :: st) n K I L R := by
  subst hp; intro H locs ls hW hS hl
  exact lv_dup2_11 C.1 C.2.1 hd ((cv_cat _ v).trans hc) ((cv_cat _ u).trans hc2) (k H locs ls hW hS hl)
theorem w_pop (C : Cx Γ own cc nL ret rm nm) {v : Value} (hd : decode cc pc = .ok (.pop, 1)) (hc : v.category = 1) (hp : pc + 1 = pc2) (k : wp Γ cells slots Q pc2 lo (st) n K I L R) : wp Γ cells slots Q pc lo (v :: st) n K I L R := by
  subst hp; intro H locs ls hW hS hl
  exact lv_pop C.1 C.2.1 hd ((cv_cat _ v).trans hc) (k H locs ls hW hS hl)
theorem w_if_eq (C : Cx Γ own cc nL ret rm nm) {x : Int32} {off : Int} {tgt : Nat} (hd : decode cc pc = .ok (.ifCond .eq off, 3)) (ht : (pc : Int) + off = (tgt : Int)) (hp : pc + 3 = pc2) (kt : (x = 0) → wp Γ cells slots Q tgt lo st n K I L R) (kf : (¬ (x = 0)) → wp Γ cells slots Q pc2 lo st n K I L R) : wp Γ cells slots Q pc lo (.int x :: st) n K I L R := by
  subst hp; intro H locs ls hW hS hl
  exact lv_if_eq C.1 C.2.1 hd ht (fun c => kt c H locs ls hW hS hl) (fun c => kf c H locs ls hW hS hl)
theorem w_if_ne (C : Cx Γ own cc nL ret rm nm) {x : Int32} {off : Int} {tgt : Nat} (hd : decode cc pc = .ok (.ifCond .ne off, 3)) (ht : (pc : Int) + off = (tgt : Int)) (hp : pc + 3 = pc2) (kt : (¬ x = 0) → wp Γ cells slots Q tgt lo st n K I L R) (kf : (x = 0) → wp Γ cells slots Q pc2 lo st n K I L R) : wp Γ cells slots Q pc lo (.int x :: st) n K I L R := by
  subst hp; intro H locs ls hW hS hl
  exact lv_if_ne C.1 C.2.1 hd ht (fun c => kt c H locs ls hW hS hl) (fun c => kf c H locs ls hW hS hl)
theorem w_if_lt (C : Cx Γ own cc nL ret rm nm) {x : Int32} {off : Int} {tgt : Nat} (hd : decode cc pc = .ok (.ifCond .lt off, 3)) (ht : (pc : Int) + off = (tgt : Int)) (hp : pc + 3 = pc2) (kt : (x < 0) → wp Γ cells slots Q tgt lo st n K I L R) (kf : (¬ (x < 0)) → wp Γ cells slots Q pc2 lo st n K I L R) : wp Γ cells slots Q pc lo (.int x :: st) n K I L R := by
  subst hp; intro H locs ls hW hS hl
  exact lv_if_lt C.1 C.2.1 hd ht (fun c => kt c H locs ls hW hS hl) (fun c => kf c H locs ls hW hS hl)
theorem w_if_ge (C : Cx Γ own cc nL ret rm nm) {x : Int32} {off : Int} {tgt : Nat} (hd : decode cc pc = .ok (.ifCond .ge off, 3)) (ht : (pc : Int) + off = (tgt : Int)) (hp : pc + 3 = pc2) (kt : (0 ≤ x) → wp Γ cells slots Q tgt lo st n K I L R) (kf : (¬ (0 ≤ x)) → wp Γ cells slots Q pc2 lo st n K I L R) : wp Γ cells slots Q pc lo (.int x :: st) n K I L R := by
  subst hp; intro H locs ls hW hS hl
  exact lv_if_ge C.1 C.2.1 hd ht (fun c => kt c H locs ls hW hS hl) (fun c => kf c H locs ls hW hS hl)
theorem w_if_gt (C : Cx Γ own cc nL ret rm nm) {x : Int32} {off : Int} {tgt : Nat} (hd : decode cc pc = .ok (.ifCond .gt off, 3)) (ht : (pc : Int) + off = (tgt : Int)) (hp : pc + 3 = pc2) (kt : (0 < x) → wp Γ cells slots Q tgt lo st n K I L R) (kf : (¬ (0 < x)) → wp Γ cells slots Q pc2 lo st n K I L R) : wp Γ cells slots Q pc lo (.int x :: st) n K I L R := by
  subst hp; intro H locs ls hW hS hl
  exact lv_if_gt C.1 C.2.1 hd ht (fun c => kt c H locs ls hW hS hl) (fun c => kf c H locs ls hW hS hl)
theorem w_if_le (C : Cx Γ own cc nL ret rm nm) {x : Int32} {off : Int} {tgt : Nat} (hd : decode cc pc = .ok (.ifCond .le off, 3)) (ht : (pc : Int) + off = (tgt : Int)) (hp : pc + 3 = pc2) (kt : (x ≤ 0) → wp Γ cells slots Q tgt lo st n K I L R) (kf : (¬ (x ≤ 0)) → wp Γ cells slots Q pc2 lo st n K I L R) : wp Γ cells slots Q pc lo (.int x :: st) n K I L R := by
  subst hp; intro H locs ls hW hS hl
  exact lv_if_le C.1 C.2.1 hd ht (fun c => kt c H locs ls hW hS hl) (fun c => kf c H locs ls hW hS hl)
theorem w_icmp_eq (C : Cx Γ own cc nL ret rm nm) {x y : Int32} {off : Int} {tgt : Nat} (hd : decode cc pc = .ok (.if_icmp .eq off, 3)) (ht : (pc : Int) + off = (tgt : Int)) (hp : pc + 3 = pc2) (kt : (x = y) → wp Γ cells slots Q tgt lo st n K I L R) (kf : (¬ (x = y)) → wp Γ cells slots Q pc2 lo st n K I L R) : wp Γ cells slots Q pc lo (.int y :: .int x :: st) n K I L R := by
  subst hp; intro H locs ls hW hS hl
  exact lv_icmp_eq C.1 C.2.1 hd ht (fun c => kt c H locs ls hW hS hl) (fun c => kf c H locs ls hW hS hl)
theorem w_icmp_ne (C : Cx Γ own cc nL ret rm nm) {x y : Int32} {off : Int} {tgt : Nat} (hd : decode cc pc = .ok (.if_icmp .ne off, 3)) (ht : (pc : Int) + off = (tgt : Int)) (hp : pc + 3 = pc2) (kt : (¬ x = y) → wp Γ cells slots Q tgt lo st n K I L R) (kf : (x = y) → wp Γ cells slots Q pc2 lo st n K I L R) : wp Γ cells slots Q pc lo (.int y :: .int x :: st) n K I L R := by
  subst hp; intro H locs ls hW hS hl
  exact lv_icmp_ne C.1 C.2.1 hd ht (fun c => kt c H locs ls hW hS hl) (fun c => kf c H locs ls hW hS hl)
theorem w_icmp_lt (C : Cx Γ own cc nL ret rm nm) {x y : Int32} {off : Int} {tgt : Nat} (hd : decode cc pc = .ok (.if_icmp .lt off, 3)) (ht : (pc : Int) + off = (tgt : Int)) (hp : pc + 3 = pc2) (kt : (x < y) → wp Γ cells slots Q tgt lo st n K I L R) (kf : (¬ (x < y)) → wp Γ cells slots Q pc2 lo st n K I L R) : wp Γ cells slots Q pc lo (.int y :: .int x :: st) n K I L R := by
  subst hp; intro H locs ls hW hS hl
  exact lv_icmp_lt C.1 C.2.1 hd ht (fun c => kt c H locs ls hW hS hl) (fun c => kf c H locs ls hW hS hl)
theorem w_icmp_ge (C : Cx Γ own cc nL ret rm nm) {x y : Int32} {off : Int} {tgt : Nat} (hd : decode cc pc = .ok (.if_icmp .ge off, 3)) (ht : (pc : Int) + off = (tgt : Int)) (hp : pc + 3 = pc2) (kt : (y ≤ x) → wp Γ cells slots Q tgt lo st n K I L R) (kf : (¬ (y ≤ x)) → wp Γ cells slots Q pc2 lo st n K I L R) : wp Γ cells slots Q pc lo (.int y :: .int x :: st) n K I L R := by
  subst hp; intro H locs ls hW hS hl
  exact lv_icmp_ge C.1 C.2.1 hd ht (fun c => kt c H locs ls hW hS hl) (fun c => kf c H locs ls hW hS hl)
theorem w_icmp_gt (C : Cx Γ own cc nL ret rm nm) {x y : Int32} {off : Int} {tgt : Nat} (hd : decode cc pc = .ok (.if_icmp .gt off, 3)) (ht : (pc : Int) + off = (tgt : Int)) (hp : pc + 3 = pc2) (kt : (y < x) → wp Γ cells slots Q tgt lo st n K I L R) (kf : (¬ (y < x)) → wp Γ cells slots Q pc2 lo st n K I L R) : wp Γ cells slots Q pc lo (.int y :: .int x :: st) n K I L R := by
  subst hp; intro H locs ls hW hS hl
  exact lv_icmp_gt C.1 C.2.1 hd ht (fun c => kt c H locs ls hW hS hl) (fun c => kf c H locs ls hW hS hl)
theorem w_icmp_le (C : Cx Γ own cc nL ret rm nm) {x y : Int32} {off : Int} {tgt : Nat} (hd : decode cc pc = .ok (.if_icmp .le off, 3)) (ht : (pc : Int) + off = (tgt : Int)) (hp : pc + 3 = pc2) (kt : (x ≤ y) → wp Γ cells slots Q tgt lo st n K I L R) (kf : (¬ (x ≤ y)) → wp Γ cells slots Q pc2 lo st n K I L R) : wp Γ cells slots Q pc lo (.int y :: .int x :: st) n K I L R := by
  subst hp; intro H locs ls hW hS hl
  exact lv_icmp_le C.1 C.2.1 hd ht (fun c => kt c H locs ls hW hS hl) (fun c => kf c H locs ls hW hS hl)
theorem w_goto (C : Cx Γ own cc nL ret rm nm) {off : Int} {tgt : Nat} (hd : decode cc pc = .ok (.goto off, 3)) (ht : (pc : Int) + off = (tgt : Int)) (k : wp Γ cells slots Q tgt lo st n K I L R) : wp Γ cells slots Q pc lo st n K I L R := by
  intro H locs ls hW hS hl
  exact lv_goto C.1 C.2.1 hd ht (k H locs ls hW hS hl)
theorem w_ifnonnull (C : Cx Γ own cc nL ret rm nm) {x : Nat} {off : Int} {tgt : Nat} (hd : decode cc pc = .ok (.ifnonnull off, 3)) (ht : (pc : Int) + off = (tgt : Int)) (k : wp Γ cells slots Q tgt lo st n K I L R) : wp Γ cells slots Q pc lo (.ref x :: st) n K I L R := by
  intro H locs ls hW hS hl
  exact lv_ifnonnull C.1 C.2.1 hd ht (k H locs ls hW hS hl)
theorem w_ifnonnullN (C : Cx Γ own cc nL ret rm nm) {off : Int} (hd : decode cc pc = .ok (.ifnonnull off, 3)) (hp : pc + 3 = pc2) (k : wp Γ cells slots Q pc2 lo st n K I L R) : wp Γ cells slots Q pc lo (.null :: st) n K I L R := by
  subst hp; intro H locs ls hW hS hl
  exact lv_ifnonnullN C.1 C.2.1 hd (k H locs ls hW hS hl)
theorem w_tableIn (C : Cx Γ own cc nL ret rm nm) {dflt lo2 hi : Int} {offs : Array Int} {len : Nat} {x : Int32} {off : Int} {tgt : Nat} (hd : decode cc pc = .ok (.tableswitch dflt lo2 hi offs, len)) (h1 : ¬ x.toInt < lo2) (h2 : ¬ hi < x.toInt) (ho : offs[(x.toInt - lo2).toNat]? = some off) (ht : (pc : Int) + off = (tgt : Int)) (k : wp Γ cells slots Q tgt lo st n K I L R) : wp Γ cells slots Q pc lo (.int x :: st) n K I L R := by
  intro H locs ls hW hS hl
  exact lv_tableIn C.1 C.2.1 hd h1 h2 ho ht (k H locs ls hW hS hl)
theorem w_tableOut (C : Cx Γ own cc nL ret rm nm) {dflt lo2 hi : Int} {offs : Array Int} {len : Nat} {x : Int32} {tgt : Nat} (hd : decode cc pc = .ok (.tableswitch dflt lo2 hi offs, len)) (h : x.toInt < lo2 ∨ hi < x.toInt) (ht : (pc : Int) + dflt = (tgt : Int)) (k : wp Γ cells slots Q tgt lo st n K I L R) : wp Γ cells slots Q pc lo (.int x :: st) n K I L R := by
  intro H locs ls hW hS hl
  exact lv_tableOut C.1 C.2.1 hd h ht (k H locs ls hW hS hl)
theorem w_lookup (C : Cx Γ own cc nL ret rm nm) {dflt : Int} {ps : Array (Int × Int)} {len : Nat} {x : Int32} {off : Int} {tgt : Nat} (hd : decode cc pc = .ok (.lookupswitch dflt ps, len)) (h1 : (ps.toList.zip (ps.toList.drop 1)).all (fun (a, next) => a.1 < next.1) = true) (ho : Op.lookupswitch.offset ps.toList dflt x.toInt = off) (ht : (pc : Int) + off = (tgt : Int)) (k : wp Γ cells slots Q tgt lo st n K I L R) : wp Γ cells slots Q pc lo (.int x :: st) n K I L R := by
  intro H locs ls hW hS hl
  exact lv_lookup C.1 C.2.1 hd h1 ho ht (k H locs ls hW hS hl)
theorem w_istore_n (C : Cx Γ own cc nL ret rm nm) {i : Fin 4} {x : Int32} {lo2 : List (Option Value)} (hd : decode cc pc = .ok (.istore_n i, 1)) (hn : noL lo = true) (hi : (i : Nat) < nL) (hlo : lo.set (i : Nat) (some (.int x)) = lo2) (hp : pc + 1 = pc2) (k : wp Γ cells slots Q pc2 lo2 st n K I L R) : wp Γ cells slots Q pc lo (.int x :: st) n K I L R := by
  subst hp; subst hlo; intro H locs ls hW hS hl
  exact lv_istore_n C.1 C.2.1 hd rfl hl (by rw [C.2.2.2.1]; exact hi) rfl (fun ls2 h2 => k H locs ls2 hW hS (lh.sto (ls := ls) hn h2))
theorem w_istore (C : Cx Γ own cc nL ret rm nm) {i : Nat} {x : Int32} {lo2 : List (Option Value)} (hd : decode cc pc = .ok (.istore i, 2)) (hn : noL lo = true) (hi : i < nL) (hlo : lo.set i (some (.int x)) = lo2) (hp : pc + 2 = pc2) (k : wp Γ cells slots Q pc2 lo2 st n K I L R) : wp Γ cells slots Q pc lo (.int x :: st) n K I L R := by
  subst hp; subst hlo; intro H locs ls hW hS hl
  exact lv_istore C.1 C.2.1 hd hl (by rw [C.2.2.2.1]; exact hi) rfl (fun ls2 h2 => k H locs ls2 hW hS (lh.sto (ls := ls) hn h2))
theorem w_astore_n (C : Cx Γ own cc nL ret rm nm) {i : Fin 4} {x : Nat} {lo2 : List (Option Value)} (hd : decode cc pc = .ok (.astore_n i, 1)) (hn : noL lo = true) (hi : (i : Nat) < nL) (hlo : lo.set (i : Nat) (some (.ref x)) = lo2) (hp : pc + 1 = pc2) (k : wp Γ cells slots Q pc2 lo2 st n K I L R) : wp Γ cells slots Q pc lo (.ref x :: st) n K I L R := by
  subst hp; subst hlo; intro H locs ls hW hS hl
  exact lv_astore_n C.1 C.2.1 hd rfl hl (by rw [C.2.2.2.1]; exact hi) rfl (fun ls2 h2 => k H locs ls2 hW hS (lh.sto (ls := ls) hn h2))
theorem w_lstore_n (C : Cx Γ own cc nL ret rm nm) {i : Fin 4} {x : Int64} {lo2 : List (Option Value)} (hd : decode cc pc = .ok (.lstore_n i, 1)) (hn : noL lo = true) (hi : (i : Nat) + 1 < nL) (hlo : (lo.set (i : Nat) (some (.long x))).set ((i : Nat) + 1) none = lo2) (hp : pc + 1 = pc2) (k : wp Γ cells slots Q pc2 lo2 st n K I L R) : wp Γ cells slots Q pc lo (.long x :: st) n K I L R := by
  subst hp; subst hlo; intro H locs ls hW hS hl
  exact lv_lstore_n C.1 C.2.1 hd rfl hl (by rw [C.2.2.2.1]; exact hi) rfl (fun ls2 h2 => k H locs ls2 hW hS (lh.stoL (ls := ls) hn h2))
theorem w_iinc (C : Cx Γ own cc nL ret rm nm) {i : Nat} {d : Int} {x v : Int32} {lo2 : List (Option Value)} (hd : decode cc pc = .ok (.iinc i d, 3)) (hx : lo[i]? = some (some (.int x))) (hv : x + Int32.ofInt d = v) (hn : noL lo = true) (hi : i < nL) (hlo : lo.set i (some (.int v)) = lo2) (hp : pc + 3 = pc2) (k : wp Γ cells slots Q pc2 lo2 st n K I L R) : wp Γ cells slots Q pc lo st n K I L R := by
  subst hp; subst hlo; intro H locs ls hW hS hl
  obtain ⟨q, hq⟩ := List.getElem?_of_mem ((lps_mem (gz Γ) lo 0 (0 + i, cv (gz Γ) (.int x))).mpr ⟨i, _, hx, rfl⟩)
  rw [Nat.zero_add] at hq
  exact lv_iinc C.1 C.2.1 hd hl hq hv (by rw [C.2.2.2.1]; exact hi) rfl (fun ls2 h2 => k H locs ls2 hW hS (lh.sto (ls := ls) hn h2))
theorem w_less {lo2 : List (Option Value)} (hs : ∀ (j : Nat) (v : Value), lo2[j]? = some (some v) → lo[j]? = some (some v)) (k : wp Γ cells slots Q pc lo2 st n K I L R) : wp Γ cells slots Q pc lo st n K I L R := fun H locs ls hW hS hl => k H locs ls hW hS (hl.less hs)
theorem w_widen {c2 s2 : Nat} (h1 : cells ≤ c2) (h2 : slots ≤ s2) (k : wp Γ c2 s2 Q pc lo st n K I L R) : wp Γ cells slots Q pc lo st n K I L R := fun H locs ls hW hS hl => W.widen h1 h2 (k H locs ls hW hS hl)
end RULES
end
section
/-! ===== rules for the heap ===== -/
/-- a class of the world, with its rows of the tables -/
def ClOK (ci : Nat) (C : String) (T : u_T) (N : Nat) (ty : Nat → FieldType) : Prop := vwCl[ci]? = some (C, T, N) ∧ (∀ w ∈ u_ws C T N, w ∈ tg) ∧ (∀ k, k < N → parseFieldDescriptor (T k).2.2.1 = some (ty k)) ∧ (∀ a, a < N → ∀ b, b < N → a ≠ b → (T a).2.1 ≠ (T b).2.1) ∧ ci < 100 ∧ (FK ci).length = N
/-- entry idx of own's pool is field k of class ci; f: 1 a reference (final), 0 a number -/
def FLk (own : String) (idx ci k f : Nat) (ty : FieldType) : Prop := ∃ (C : String) (T : u_T) (N : Nat) (tyf : Nat → FieldType), ClOK ci C T N tyf ∧ k < N ∧ Cond.fieldLink own idx (T k).1 (T k).2.1 (T k).2.2.1 ∈ tg ∧ (FK ci)[k]? = some f ∧ parseFieldDescriptor (T k).2.2.1 = some ty ∧ (T k).2.2.2 = (f == 1) ∧ (T k).1 = C
theorem cel_o {cT : Nat → ClassId} {z : Nat} {κ : Nat × Nat} {I : Nat → Int32} {L : Nat → Int64} {R : Nat → Option Nat} {ci m : Nat} (h : κ = (ci, m)) (hc : ci < 100) : cel cT z κ I L R = .inr (ci, flds z I R (FK ci) 0) := by
  subst h; simp [cel, hc]
theorem cel_i {cT : Nat → ClassId} {z : Nat} {κ : Nat × Nat} {I : Nat → Int32} {L : Nat → Int64} {R : Nat → Option Nat} {t m : Nat} (h : κ = (t, m)) (h1 : 100 ≤ t) (h2 : t < 103) : cel cT z κ I L R = .inl (cT t, m, .inl I) := by
  subst h; simp [cel, h2, Nat.not_lt.mpr h1]
theorem cel_l {cT : Nat → ClassId} {z : Nat} {κ : Nat × Nat} {I : Nat → Int32} {L : Nat → Int64} {R : Nat → Option Nat} {m : Nat} (h : κ = (103, m)) : cel cT z κ I L R = .inl (cT 103, m, .inr (.inl L)) := by
  subst h; simp [cel]
theorem cel_r {cT : Nat → ClassId} {z : Nat} {κ : Nat × Nat} {I : Nat → Int32} {L : Nat → Int64} {R : Nat → Option Nat} {t m : Nat} (h : κ = (t, m)) (h1 : 104 ≤ t) : cel cT z κ I L R = .inl (cT t, m, .inr (.inr (.inr (.inr (fun j => zo z (R j)))))) := by
  subst h; simp [cel, show ¬ t < 100 by omega, show ¬ t < 103 by omega, show ¬ t = 103 by omega]
/-- one cell has new contents, all else stays -/
theorem HW.put {D : va_G} {cT : Nat → ClassId} {z n i : Nat} {K : wKd} {I I2 : wIn} {L L2 : wLn} {R R2 : wRf} {H H1 : Heap} (h : HW D cT z n K I L R H) (hz : H1.size = H.size) (ho : ∀ q, q ≠ z + i → H1[q]? = H[q]?) (hat : va_at D vwCl (z + i, cel cT z (K i) (I2 i) (L2 i) (R2 i)) H1) (hs : ∀ j, j ≠ i → I2 j = I j ∧ L2 j = L j ∧ R2 j = R j) : HW D cT z n K I2 L2 R2 H1 := by
  refine ⟨by rw [hz]; exact h.1, h.2.1, fun k q hk => ?_⟩
  obtain ⟨hkn, rfl⟩ := wl_at hk
  by_cases e : k = i
  · subst e; exact hat
  · obtain ⟨h1, h2, h3⟩ := hs k e
    rw [h1, h2, h3]
    exact (h.2.2 k _ (wl_get hkn)).kept (ho _ (by show z + k ≠ z + i; omega))
theorem va_S.put2 {A : Nat → Prop} {H0 H H1 : Heap} {locs : List Loc} {a k : Nat} (h : va_S A H0 H locs) (z : H1.size = H.size) (oq : ∀ q : Nat, q ≠ a → H1[q]? = H[q]?) (ha : A a) : va_S A H0 H1 (locs ++ [⟨a, k⟩]) := h.put z oq ha
section HEAP
variable {Γ : Gm} {own : String} {cc : ByteArray} {nL : Nat} {ret : Option FieldType} {rm : Room} {nm : String} {cells slots pc pc2 : Nat} {Q : State → Prop} {lo : List (Option Value)} {st : List Value} {n : Nat} {K : wKd} {I : wIn} {L : wLn} {R : wRf}
theorem w_getI (C : Cx Γ own cc nL ret rm nm) {idx ci k i m : Nat} {ty : FieldType} (hd : decode cc pc = .ok (.getfield idx, 3)) (hf : FLk own idx ci k 0 ty) (hk : K i = (ci, m)) (hp : pc + 3 = pc2) (kk : wp Γ cells slots Q pc2 lo (.int (I i k) :: st) n K I L R) : wp Γ cells slots Q pc lo (.ref i :: st) n K I L R := by
  subst hp; intro H locs ls hW hS hl
  obtain ⟨Cn, T, N, tyf, ⟨h1, h2, h3, h4, h5, h6⟩, h7, h8, h9, h10, h11, h12⟩ := hf
  have hi : i < n := hW.lt hk (by show ci ≠ 999; omega)
  exact va_get (D := gD Γ) (ci := ci) (v := .int (I i k)) (C := Cn) (T := T) (N := N) C.1 C.2.1 C.2.2.2.2.2.1 h2 C.2.2.2.2.1 C.2.2.2.2.2.2.2.1.1 hW.2.2 i (by rw [wl_get hi, cel_o hk h5]) h1 k h7 (C.2.2.2.2.2.1 _ h8) (fun _ h => h) (by rw [flds_get _ _ _ _ _ _ _ h9]; simp) hd (kk H locs ls hW hS hl)
theorem w_getR (C : Cx Γ own cc nL ret rm nm) {idx ci k i m j : Nat} {ty : FieldType} (hd : decode cc pc = .ok (.getfield idx, 3)) (hf : FLk own idx ci k 1 ty) (hk : K i = (ci, m)) (hr : R i k = some j) (hp : pc + 3 = pc2) (kk : wp Γ cells slots Q pc2 lo (.ref j :: st) n K I L R) : wp Γ cells slots Q pc lo (.ref i :: st) n K I L R := by
  subst hp; intro H locs ls hW hS hl
  obtain ⟨Cn, T, N, tyf, ⟨h1, h2, h3, h4, h5, h6⟩, h7, h8, h9, h10, h11, h12⟩ := hf
  have hi : i < n := hW.lt hk (by show ci ≠ 999; omega)
  exact va_get (D := gD Γ) (ci := ci) (v := .ref (gz Γ + j)) (C := Cn) (T := T) (N := N) C.1 C.2.1 C.2.2.2.2.2.1 h2 C.2.2.2.2.1 C.2.2.2.2.2.2.2.1.1 hW.2.2 i (by rw [wl_get hi, cel_o hk h5]) h1 k h7 (C.2.2.2.2.2.1 _ h8) (fun _ h => h) (by rw [flds_get _ _ _ _ _ _ _ h9]; simp [hr, zo, va_rf]) hd (kk H locs ls hW hS hl)
theorem w_putI (C : Cx Γ own cc nL ret rm nm) {idx ci k i m : Nat} {x : Int32} {ty : FieldType} (hd : decode cc pc = .ok (.putfield idx, 3)) (hf : FLk own idx ci k 0 ty) (hk : K i = (ci, m)) (hn : narrow ty (.int x) = .int x) (hfit : fits ty (.int x) = true) (hp : pc + 3 = pc2) (kk : wp Γ cells slots Q pc2 lo st n K (up2 I i k x) L R) : wp Γ cells slots Q pc lo (.int x :: .ref i :: st) n K I L R := by
  subst hp; intro H locs ls hW hS hl
  obtain ⟨Cn, T, N, tyf, ⟨h1, h2, h3, h4, h5, h6⟩, h7, h8, h9, h10, h11, h12⟩ := hf
  have hi : i < n := hW.lt hk (by show ci ≠ 999; omega)
  have hts := C.2.2.2.2.2.1
  have hKK := C.2.2.2.2.2.2.2.1.1
  have hap := va_apart (own := own) hts h2 tyf h3 h4 hKK h1
  have hat := hW.2.2 i _ (wl_get hi)
  rw [cel_o hk h5] at hat
  obtain ⟨r, hr, cell, q1, q2, q3, q4⟩ := hat
  have hr : r = (Cn, T, N) := Option.some.inj (hr.symm.trans h1)
  subst hr
  obtain ⟨hSl, hfc, kC, hkC, hkind⟩ := hKK.1 ci _ h1
  obtain ⟨cf, kf, fi, f, hfi, hsl⟩ := hSl k h7
  have hlay := hts _ (h2 _ (u_in_lay h7))
  unfold u_lay at hlay
  rw [if_neg (by rw [h11]; decide)] at hlay
  have hst := (u_facts hfc hkC (u_lays hts h2 h7) hfi).1
  have hsd := u_store hfc hkC hkind hlay hfi h10 hn hfit
  refine W.putK C.1 C.2.1 (f := f) ⟨C.2.2.2.2.1, hts _ h8, ⟨_, _, _, hfi⟩, hst⟩ (by rw [q2]; exact hsd) q1 q3 (by rw [hsl]; exact k2_hasslot (q4 k h7)) rfl rfl hd fun H1 e1 e2 e3 => ?_
  rw [hsl] at e1 ⊢
  refine kk H1 _ ls (hW.put (i := i) e2 e3 ?_ (fun j hj => ⟨?_, rfl, rfl⟩)) (hS.put e2 e3 (Nat.le_add_right _ _)) hl
  · rw [cel_o hk h5]
    have hlen : k < (flds (gz Γ) (I i) (R i) (FK ci) 0).length := by rw [flds_len]; omega
    have hset := flds_setI (gz Γ) (I i) (up2 I i k x i) (R i) x (FK ci) 0 k h9 (by simp [up2]) (fun a ha => by simp [up2]; omega)
    refine ⟨_, h1, ?_⟩
    show t_OB _ _ _ _ _ (vp_V (flds _ _ _ _ _))
    rw [← hset]
    exact t_OB.to (V := updV (vp_V (flds (gz Γ) (I i) (R i) (FK ci) 0)) k (.int x)) ⟨_, e1, q2, q3, t_set q4 hap h7 _⟩ (fun j _ => vp_updV_set hlen _ j)
  · funext a; simp [up2, hj]
theorem w_putR (C : Cx Γ own cc nL ret rm nm) {idx ci k i m x : Nat} {ty : FieldType} (hd : decode cc pc = .ok (.putfield idx, 3)) (hf : FLk own idx ci k 1 ty) (hk : K i = (ci, m)) (hin : nm = "<init>") (hown : vwCl[ci]?.map (·.1) = some own) (hty : narrow ty (.ref (gz Γ + x)) = .ref (gz Γ + x)) (hfit : fits ty (.ref (gz Γ + x)) = true) (hp : pc + 3 = pc2) (kk : wp Γ cells slots Q pc2 lo st n K I L (up2 R i k (some x))) : wp Γ cells slots Q pc lo (.ref x :: .ref i :: st) n K I L R := by
  subst hp; intro H locs ls hW hS hl
  obtain ⟨Cn, T, N, tyf, ⟨h1, h2, h3, h4, h5, h6⟩, h7, h8, h9, h10, h11, h12⟩ := hf
  have hi : i < n := hW.lt hk (by show ci ≠ 999; omega)
  have hts := C.2.2.2.2.2.1
  have hKK := C.2.2.2.2.2.2.2.1.1
  have hap := va_apart (own := own) hts h2 tyf h3 h4 hKK h1
  have hat := hW.2.2 i _ (wl_get hi)
  rw [cel_o hk h5] at hat
  obtain ⟨r, hr, cell, q1, q2, q3, q4⟩ := hat
  have hr : r = (Cn, T, N) := Option.some.inj (hr.symm.trans h1)
  subst hr
  obtain ⟨hSl, hfc, kC, hkC, hkind⟩ := hKK.1 ci _ h1
  obtain ⟨cf, kf, fi, f, hfi, hsl⟩ := hSl k h7
  have hCo : Cn = own := by rw [h1] at hown; simpa using hown
  have hlay := hts _ (h2 _ (u_in_lay h7))
  unfold u_lay at hlay
  rw [if_pos (by rw [h11]; decide)] at hlay
  have hst := (u_facts hfc hkC (u_lays hts h2 h7) hfi).1
  have hcf : (gm Γ).cls = cf := by
    obtain ⟨_, _, c2, _, _, _, -, -, hf2, -, -, -, hown2, -⟩ := Cond.laysFinal_spec hlay
    have e1 : c2 = cf := by have := hfi.symm.trans hf2; simp at this; exact this.1.symm
    rw [h12, hCo] at hown2
    rw [← e1]; exact Option.some.inj (C.2.2.2.2.1.symm.trans hown2)
  have hsd := u_fits hfc hkC hkind (Or.inr hlay) hfi h10 hty hfit
  refine W.putFinK C.1 C.2.1 C.2.2.2.2.1 (hts _ h8) hfi hst hcf (by rw [C.2.2.2.2.2.2.2.2.2.1]; exact hin) (by rw [q2]; exact hsd) q1 q3 (by rw [hsl]; exact k2_hasslot (q4 k h7)) rfl rfl hd fun H1 e1 e2 e3 => ?_
  rw [hsl] at e1 ⊢
  refine kk H1 _ ls (hW.put (i := i) e2 e3 ?_ (fun j hj => ⟨rfl, rfl, ?_⟩)) (hS.put e2 e3 (Nat.le_add_right _ _)) hl
  · rw [cel_o hk h5]
    have hlen : k < (flds (gz Γ) (I i) (R i) (FK ci) 0).length := by rw [flds_len]; omega
    have hset := flds_setR (gz Γ) (I i) (R i) (up2 R i k (some x) i) (some x) (FK ci) 0 k h9 (by simp [up2]) (fun a ha => by simp [up2]; omega)
    refine ⟨_, h1, ?_⟩
    show t_OB _ _ _ _ _ (vp_V (flds _ _ _ _ _))
    rw [← hset]
    exact t_OB.to (V := updV (vp_V (flds (gz Γ) (I i) (R i) (FK ci) 0)) k (.ref (gz Γ + x))) ⟨_, e1, q2, q3, t_set q4 hap h7 _⟩ (fun j _ => vp_updV_set hlen _ j)
  · funext a; simp [up2, hj]
/-- array reads: the place j of the index x -/
theorem w_iald (C : Cx Γ own cc nL ret rm nm) {i m j : Nat} {x : Int32} (hd : decode cc pc = .ok (.iaload, 1)) (hk : K i = (100, m)) (hx : x = nI j) (hj : j < m) (hm : m < 2 ^ 31) (hp : pc + 1 = pc2) (kk : wp Γ cells slots Q pc2 lo (.int (I i j) :: st) n K I L R) : wp Γ cells slots Q pc lo (.int x :: .ref i :: st) n K I L R := by
  subst hp; subst hx; intro H locs ls hW hS hl
  have hi : i < n := hW.lt hk (by simp)
  have h := kk H locs ls hW hS hl
  refine va_iald (tys := tysOf (gT Γ)) C.1 C.2.1 C.2.2.2.2.2.2.2.1.1 hW.2.2 i 0 (by rw [wl_get hi, cel_i hk (by decide) (by decide)]) rfl (vp_in_nI hj hm) hd ?_
  rw [nI_clamp (by omega)]
  exact h
theorem w_bald (C : Cx Γ own cc nL ret rm nm) {i m j : Nat} {x : Int32} (hd : decode cc pc = .ok (.baload, 1)) (hk : K i = (101, m)) (hx : x = nI j) (hj : j < m) (hm : m < 2 ^ 31) (hp : pc + 1 = pc2) (kk : wp Γ cells slots Q pc2 lo (.int (I i j) :: st) n K I L R) : wp Γ cells slots Q pc lo (.int x :: .ref i :: st) n K I L R := by
  subst hp; subst hx; intro H locs ls hW hS hl
  have hi : i < n := hW.lt hk (by simp)
  have h := kk H locs ls hW hS hl
  refine va_bald (tys := tysOf (gT Γ)) C.1 C.2.1 C.2.2.2.2.2.2.2.1.1 hW.2.2 i 1 (by rw [wl_get hi, cel_i hk (by decide) (by decide)]) rfl (vp_in_nI hj hm) hd ?_
  rw [nI_clamp (by omega)]
  exact h
theorem w_zald (C : Cx Γ own cc nL ret rm nm) {i m j : Nat} {x : Int32} (hd : decode cc pc = .ok (.baload, 1)) (hk : K i = (102, m)) (hx : x = nI j) (hj : j < m) (hm : m < 2 ^ 31) (hp : pc + 1 = pc2) (kk : wp Γ cells slots Q pc2 lo (.int (I i j) :: st) n K I L R) : wp Γ cells slots Q pc lo (.int x :: .ref i :: st) n K I L R := by
  subst hp; subst hx; intro H locs ls hW hS hl
  have hi : i < n := hW.lt hk (by simp)
  have h := kk H locs ls hW hS hl
  refine va_zald (tys := tysOf (gT Γ)) C.1 C.2.1 C.2.2.2.2.2.2.2.1.1 hW.2.2 i 2 (by rw [wl_get hi, cel_i hk (by decide) (by decide)]) rfl (vp_in_nI hj hm) hd ?_
  rw [nI_clamp (by omega)]
  exact h
theorem w_lald (C : Cx Γ own cc nL ret rm nm) {i m j : Nat} {x : Int32} (hd : decode cc pc = .ok (.laload, 1)) (hk : K i = (103, m)) (hx : x = nI j) (hj : j < m) (hm : m < 2 ^ 31) (hp : pc + 1 = pc2) (kk : wp Γ cells slots Q pc2 lo (.long (L i j) :: st) n K I L R) : wp Γ cells slots Q pc lo (.int x :: .ref i :: st) n K I L R := by
  subst hp; subst hx; intro H locs ls hW hS hl
  have hi : i < n := hW.lt hk (by simp)
  have h := kk H locs ls hW hS hl
  refine va_lald (tys := tysOf (gT Γ)) C.1 C.2.1 C.2.2.2.2.2.2.2.1.1 hW.2.2 i 3 (by rw [wl_get hi, cel_l hk]) rfl (vp_in_nI hj hm) hd ?_
  rw [nI_clamp (by omega)]
  exact h
/-- arrays of references: Matters (104), int rows (105) -/
theorem w_aald (C : Cx Γ own cc nL ret rm nm) {i t m j : Nat} {x : Int32} (hd : decode cc pc = .ok (.aaload, 1)) (hk : K i = (t, m)) (ht : t = 104 ∨ t = 105) (hx : x = nI j) (hj : j < m) (hm : m < 2 ^ 31) (hp : pc + 1 = pc2) (kk : wp Γ cells slots Q pc2 lo (va_rf (R i j) :: st) n K I L R) : wp Γ cells slots Q pc lo (.int x :: .ref i :: st) n K I L R := by
  subst hp; subst hx; intro H locs ls hW hS hl
  have hi : i < n := hW.lt hk (by show t ≠ 999; omega)
  have h := kk H locs ls hW hS hl
  have hat := hW.2.2 i _ (wl_get hi)
  rw [cel_r hk (by omega)] at hat
  have hc : H[gz Γ + i]? = some (arrV (gT Γ t) m (fun j => va_rf (zo (gz Γ) (R i j)))) := hat
  have hK := C.2.2.2.2.2.2.2.1.1
  have hcl : (nI j).toNatClampNeg = j := nI_clamp (by omega)
  have harr : ∃ ty : FieldType, ty.isReference = true ∧ (gs Γ).isArrayOf (arrV (gT Γ t) m (fun j => va_rf (zo (gz Γ) (R i j)))) ty := by
    rcases ht with e | e
    · subst e; exact ⟨.object RX2, rfl, (hK.2 4 (gT Γ 104, .object RX2) rfl).1 m _⟩
    · subst e; exact ⟨.array .int, rfl, (hK.2 5 (gT Γ 105, .array .int) rfl).1 m _⟩
  obtain ⟨ty, hty, harr⟩ := harr
  refine W.aald (v := va_rf (zo (gz Γ) (R i j))) (ty := ty) C.1 C.2.1 hc harr hty (fun q => by cases q) (by rw [arrV_size]; exact vp_in_nI hj hm) (by rw [hcl, arrV_read _ _ hj]) rfl rfl hd ?_
  rw [cv_rf]
  exact h
/-- array writes -/
theorem w_iast (C : Cx Γ own cc nL ret rm nm) {i m j : Nat} {x y : Int32} (hd : decode cc pc = .ok (.iastore, 1)) (hk : K i = (100, m)) (hx : x = nI j) (hj : j < m) (hm : m < 2 ^ 31) (hp : pc + 1 = pc2) (kk : wp Γ cells slots Q pc2 lo st n K (up2 I i j y) L R) : wp Γ cells slots Q pc lo (.int y :: .int x :: .ref i :: st) n K I L R := by
  subst hp; subst hx; intro H locs ls hW hS hl
  have hi : i < n := hW.lt hk (by simp)
  have hat := hW.2.2 i _ (wl_get hi)
  rw [cel_i hk (by decide) (by decide)] at hat
  have hc : H[gz Γ + i]? = some (arrV (gT Γ 100) m (fun j => .int (I i j))) := hat
  have hK := C.2.2.2.2.2.2.2.1.1
  have hcl : (nI j).toNatClampNeg = j := nI_clamp (by omega)
  refine W.iast C.1 C.2.1 hc ((hK.2 0 (gT Γ 100, .int) rfl).1 m _) (fun q => by cases q) (by rw [arrV_size]; exact vp_in_nI hj hm) rfl rfl hd fun H1 e z oq => ?_
  refine kk H1 _ ls (hW.put (i := i) z oq ?_ (fun a ha => ⟨?_, rfl, rfl⟩)) (hS.put z oq (Nat.le_add_right _ _)) hl
  · rw [cel_i hk (by decide) (by decide)]
    show H1[gz Γ + i]? = some (vp_cell _ _)
    rw [e, vp_cell_i, arrV_store, hcl]
    congr 2
    funext q
    by_cases hq : q = j
    · subst hq; simp [updV, up2]
    · simp [updV, up2, hq]
  · funext b; simp [up2, ha]
theorem w_bast (C : Cx Γ own cc nL ret rm nm) {i m j : Nat} {x y : Int32} (hd : decode cc pc = .ok (.bastore, 1)) (hk : K i = (101, m)) (hx : x = nI j) (hj : j < m) (hm : m < 2 ^ 31) (hp : pc + 1 = pc2) (kk : wp Γ cells slots Q pc2 lo st n K (up2 I i j (vp_nar .byte y)) L R) : wp Γ cells slots Q pc lo (.int y :: .int x :: .ref i :: st) n K I L R := by
  subst hp; subst hx; intro H locs ls hW hS hl
  have hi : i < n := hW.lt hk (by simp)
  have hat := hW.2.2 i _ (wl_get hi)
  rw [cel_i hk (by decide) (by decide)] at hat
  have hc : H[gz Γ + i]? = some (arrV (gT Γ 101) m (fun j => .int (I i j))) := hat
  have hK := C.2.2.2.2.2.2.2.1.1
  have hcl : (nI j).toNatClampNeg = j := nI_clamp (by omega)
  refine W.bast C.1 C.2.1 hc ((hK.2 1 (gT Γ 101, .byte) rfl).1 m _) (fun q => by cases q) (by rw [arrV_size]; exact vp_in_nI hj hm) rfl rfl hd fun H1 e z oq => ?_
  refine kk H1 _ ls (hW.put (i := i) z oq ?_ (fun a ha => ⟨?_, rfl, rfl⟩)) (hS.put z oq (Nat.le_add_right _ _)) hl
  · rw [cel_i hk (by decide) (by decide)]
    show H1[gz Γ + i]? = some (vp_cell _ _)
    rw [e, vp_cell_i, arrV_store, hcl]
    congr 2
    funext q
    by_cases hq : q = j
    · subst hq; simp [updV, up2, vp_nar]; try rfl
    · simp [updV, up2, hq]
  · funext b; simp [up2, ha]
theorem w_zast (C : Cx Γ own cc nL ret rm nm) {i m j : Nat} {x y : Int32} (hd : decode cc pc = .ok (.bastore, 1)) (hk : K i = (102, m)) (hx : x = nI j) (hj : j < m) (hm : m < 2 ^ 31) (hp : pc + 1 = pc2) (kk : wp Γ cells slots Q pc2 lo st n K (up2 I i j (vp_nar .boolean y)) L R) : wp Γ cells slots Q pc lo (.int y :: .int x :: .ref i :: st) n K I L R := by
  subst hp; subst hx; intro H locs ls hW hS hl
  have hi : i < n := hW.lt hk (by simp)
  have hat := hW.2.2 i _ (wl_get hi)
  rw [cel_i hk (by decide) (by decide)] at hat
  have hc : H[gz Γ + i]? = some (arrV (gT Γ 102) m (fun j => .int (I i j))) := hat
  have hK := C.2.2.2.2.2.2.2.1.1
  have hcl : (nI j).toNatClampNeg = j := nI_clamp (by omega)
  refine W.zast C.1 C.2.1 hc ((hK.2 2 (gT Γ 102, .boolean) rfl).1 m _) (fun q => by cases q) (by rw [arrV_size]; exact vp_in_nI hj hm) rfl rfl hd fun H1 e z oq => ?_
  refine kk H1 _ ls (hW.put (i := i) z oq ?_ (fun a ha => ⟨?_, rfl, rfl⟩)) (hS.put z oq (Nat.le_add_right _ _)) hl
  · rw [cel_i hk (by decide) (by decide)]
    show H1[gz Γ + i]? = some (vp_cell _ _)
    rw [e, vp_cell_i, arrV_store, hcl]
    congr 2
    funext q
    by_cases hq : q = j
    · subst hq; simp [updV, up2, vp_nar]; try rfl
    · simp [updV, up2, hq]
  · funext b; simp [up2, ha]
theorem w_last (C : Cx Γ own cc nL ret rm nm) {i m j : Nat} {x : Int32} {y : Int64} (hd : decode cc pc = .ok (.lastore, 1)) (hk : K i = (103, m)) (hx : x = nI j) (hj : j < m) (hm : m < 2 ^ 31) (hp : pc + 1 = pc2) (kk : wp Γ cells slots Q pc2 lo st n K I (up2 L i j y) R) : wp Γ cells slots Q pc lo (.long y :: .int x :: .ref i :: st) n K I L R := by
  subst hp; subst hx; intro H locs ls hW hS hl
  have hi : i < n := hW.lt hk (by simp)
  have hat := hW.2.2 i _ (wl_get hi)
  rw [cel_l hk] at hat
  have hc : H[gz Γ + i]? = some (arrV (gT Γ 103) m (fun j => .long (L i j))) := hat
  have hK := C.2.2.2.2.2.2.2.1.1
  have hcl : (nI j).toNatClampNeg = j := nI_clamp (by omega)
  refine W.last C.1 C.2.1 hc ((hK.2 3 (gT Γ 103, .long) rfl).1 m _) (fun q => by cases q) (by rw [arrV_size]; exact vp_in_nI hj hm) rfl rfl hd fun H1 e z oq => ?_
  refine kk H1 _ ls (hW.put (i := i) z oq ?_ (fun a ha => ⟨rfl, ?_, rfl⟩)) (hS.put z oq (Nat.le_add_right _ _)) hl
  · rw [cel_l hk]
    show H1[gz Γ + i]? = some (vp_cell _ _)
    rw [e, vp_cell_l, arrV_store, hcl]
    congr 2
    funext q
    by_cases hq : q = j
    · subst hq; simp [updV, up2]
    · simp [updV, up2, hq]
  · funext b; simp [up2, ha]
/-- a Matter into the array of Matters -/
theorem w_aast (C : Cx Γ own cc nL ret rm nm) {i m j v m2 : Nat} {x : Int32} (hd : decode cc pc = .ok (.aastore, 1)) (hk : K i = (104, m)) (hkv : K v = (2, m2)) (hx : x = nI j) (hj : j < m) (hm : m < 2 ^ 31) (hp : pc + 1 = pc2) (kk : wp Γ cells slots Q pc2 lo st n K I L (up2 R i j (some v))) : wp Γ cells slots Q pc lo (.ref v :: .int x :: .ref i :: st) n K I L R := by
  subst hp; subst hx; intro H locs ls hW hS hl
  have hi : i < n := hW.lt hk (by simp)
  have hv : v < n := hW.lt hkv (by simp)
  have hat := hW.2.2 i _ (wl_get hi)
  rw [cel_r hk (by decide)] at hat
  have hc : H[gz Γ + i]? = some (arrV (gT Γ 104) m (fun j => va_rf (zo (gz Γ) (R i j)))) := hat
  have hatv := hW.2.2 v _ (wl_get hv)
  rw [cel_o hkv (by decide)] at hatv
  obtain ⟨r2, hr2, cellV, g1, g2, g3, -⟩ := hatv
  have hK := C.2.2.2.2.2.2.2.1.1
  have hcl : (nI j).toNatClampNeg = j := nI_clamp (by omega)
  have hcls := (hK.1 2 (RX2, TX2, 8) rfl).2
  obtain ⟨kA, comp, k1, k2, k3, -⟩ := (hK.2 4 (gT Γ 104, .object RX2) rfl).2
  have hcomp : comp = (gD Γ).1 2 := Option.some.inj (k3.symm.trans hcls.1)
  subst hcomp
  obtain ⟨kC, hkC, -⟩ := hcls.2
  refine W.aast C.1 C.2.1 hc (fun q h => by cases h) (fun h => by cases h) k1 k2 rfl hkC ⟨fun h => (vp_in_nI hj hm) (Or.inl h), by rw [arrV_size, hcl]; exact hj⟩ g1 (fun q h => by rw [g3] at h; cases h) (by rw [g2]; exact hkC) (by rw [g2]; exact va_assign hcls) rfl rfl hd fun H1 e z oq => ?_
  refine kk H1 _ ls (hW.put (i := i) z oq ?_ (fun a ha => ⟨rfl, rfl, ?_⟩)) (hS.put z oq (Nat.le_add_right _ _)) hl
  · rw [cel_r hk (by decide)]
    show H1[gz Γ + i]? = some (vp_cell _ _)
    rw [e, vp_cell_q, arrV_store, hcl]
    congr 2
    funext q
    by_cases hq : q = j
    · subst hq; simp [updV, up2, va_rf, zo]
    · simp [updV, up2, hq]
  · funext b; simp [up2, ha]
end HEAP
end
