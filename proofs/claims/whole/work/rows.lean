section
-- ===== PART A: goes FIRST, ahead of the names: the tables' words, and 'selects' of the private methods out of them =====
/-- a private method of a class that the tables say can be made, by its rows of tables_1 -/
def lw_okq (q : MethodName × Nat) : Prop := (q.1.cls ≠ "java/lang/invoke/MethodHandle" ∧ q.1.cls ≠ "java/lang/invoke/VarHandle") ∧ Cond.instantiable q.1.cls q.2 ∈ tables_1 ∧ Cond.privateMethod q.1 ∈ tables_1 ∧ Cond.instanceMethod q.1 ∈ tables_1
theorem lw_p0 : lw_okq (⟨"CarillonDesk$Reader", "start", "()V"⟩, 16) := ⟨⟨by decide +kernel, by decide +kernel⟩, List.mem_of_getElem? (i := 42) (by decide +kernel), List.mem_of_getElem? (i := 362) (by decide +kernel), List.mem_of_getElem? (i := 363) (by decide +kernel)⟩
theorem lw_p1 : lw_okq (⟨"CarillonDesk$Reader", "nextSign", "()I"⟩, 16) := ⟨⟨by decide +kernel, by decide +kernel⟩, List.mem_of_getElem? (i := 42) (by decide +kernel), List.mem_of_getElem? (i := 371) (by decide +kernel), List.mem_of_getElem? (i := 372) (by decide +kernel)⟩
theorem lw_p2 : lw_okq (⟨"CarillonDesk$Reader", "signHere", "()I"⟩, 16) := ⟨⟨by decide +kernel, by decide +kernel⟩, List.mem_of_getElem? (i := 42) (by decide +kernel), List.mem_of_getElem? (i := 375) (by decide +kernel), List.mem_of_getElem? (i := 376) (by decide +kernel)⟩
theorem lw_p3 : lw_okq (⟨"CarillonDesk$Reader", "openGroup", "()V"⟩, 16) := ⟨⟨by decide +kernel, by decide +kernel⟩, List.mem_of_getElem? (i := 42) (by decide +kernel), List.mem_of_getElem? (i := 382) (by decide +kernel), List.mem_of_getElem? (i := 383) (by decide +kernel)⟩
theorem lw_p4 : lw_okq (⟨"CarillonDesk$Reader", "readNumber", "(II)I"⟩, 16) := ⟨⟨by decide +kernel, by decide +kernel⟩, List.mem_of_getElem? (i := 42) (by decide +kernel), List.mem_of_getElem? (i := 386) (by decide +kernel), List.mem_of_getElem? (i := 387) (by decide +kernel)⟩
theorem lw_p5 : lw_okq (⟨"CarillonDesk$Reader", "fail", "(II)V"⟩, 16) := ⟨⟨by decide +kernel, by decide +kernel⟩, List.mem_of_getElem? (i := 42) (by decide +kernel), List.mem_of_getElem? (i := 390) (by decide +kernel), List.mem_of_getElem? (i := 391) (by decide +kernel)⟩
theorem lw_p6 : lw_okq (⟨"CarillonDesk$Reader", "expect", "(C)V"⟩, 16) := ⟨⟨by decide +kernel, by decide +kernel⟩, List.mem_of_getElem? (i := 42) (by decide +kernel), List.mem_of_getElem? (i := 394) (by decide +kernel), List.mem_of_getElem? (i := 395) (by decide +kernel)⟩
theorem lw_p7 : lw_okq (⟨"CarillonDesk$Reader", "closeGroup", "()V"⟩, 16) := ⟨⟨by decide +kernel, by decide +kernel⟩, List.mem_of_getElem? (i := 42) (by decide +kernel), List.mem_of_getElem? (i := 398) (by decide +kernel), List.mem_of_getElem? (i := 399) (by decide +kernel)⟩
theorem lw_p8 : lw_okq (⟨"CarillonDesk$Reader", "readItem", "(I)V"⟩, 16) := ⟨⟨by decide +kernel, by decide +kernel⟩, List.mem_of_getElem? (i := 42) (by decide +kernel), List.mem_of_getElem? (i := 402) (by decide +kernel), List.mem_of_getElem? (i := 403) (by decide +kernel)⟩
theorem lw_p9 : lw_okq (⟨"CarillonDesk$Reader", "readBell", "()I"⟩, 16) := ⟨⟨by decide +kernel, by decide +kernel⟩, List.mem_of_getElem? (i := 42) (by decide +kernel), List.mem_of_getElem? (i := 406) (by decide +kernel), List.mem_of_getElem? (i := 407) (by decide +kernel)⟩
theorem lw_p10 : lw_okq (⟨"CarillonDesk$Reader", "readChord", "()V"⟩, 16) := ⟨⟨by decide +kernel, by decide +kernel⟩, List.mem_of_getElem? (i := 42) (by decide +kernel), List.mem_of_getElem? (i := 416) (by decide +kernel), List.mem_of_getElem? (i := 417) (by decide +kernel)⟩
theorem lw_p11 : lw_okq (⟨"CarillonDesk$Reader", "readLength", "()V"⟩, 16) := ⟨⟨by decide +kernel, by decide +kernel⟩, List.mem_of_getElem? (i := 42) (by decide +kernel), List.mem_of_getElem? (i := 420) (by decide +kernel), List.mem_of_getElem? (i := 421) (by decide +kernel)⟩
theorem lw_p12 : lw_okq (⟨"CarillonDesk$Reader", "writeItem", "(ZI)V"⟩, 16) := ⟨⟨by decide +kernel, by decide +kernel⟩, List.mem_of_getElem? (i := 42) (by decide +kernel), List.mem_of_getElem? (i := 424) (by decide +kernel), List.mem_of_getElem? (i := 425) (by decide +kernel)⟩
theorem lw_p13 : lw_okq (⟨"CarillonDesk", "theSetting", "()LCarillonDesk$Setting;"⟩, 8) := ⟨⟨by decide +kernel, by decide +kernel⟩, List.mem_of_getElem? (i := 17) (by decide +kernel), List.mem_of_getElem? (i := 455) (by decide +kernel), List.mem_of_getElem? (i := 456) (by decide +kernel)⟩
theorem lw_p14 : lw_okq (⟨"CarillonDesk$Setting", "leastRest", "(II)I"⟩, 8) := ⟨⟨by decide +kernel, by decide +kernel⟩, List.mem_of_getElem? (i := 244) (by decide +kernel), List.mem_of_getElem? (i := 466) (by decide +kernel), List.mem_of_getElem? (i := 467) (by decide +kernel)⟩
theorem lw_p15 : lw_okq (⟨"CarillonDesk$Setting", "costBy", "(IIII)I"⟩, 8) := ⟨⟨by decide +kernel, by decide +kernel⟩, List.mem_of_getElem? (i := 244) (by decide +kernel), List.mem_of_getElem? (i := 473) (by decide +kernel), List.mem_of_getElem? (i := 474) (by decide +kernel)⟩
def lw_privs_1 : List (MethodName × Nat) := [(⟨"CarillonDesk$Reader", "start", "()V"⟩, 16), (⟨"CarillonDesk$Reader", "nextSign", "()I"⟩, 16), (⟨"CarillonDesk$Reader", "signHere", "()I"⟩, 16), (⟨"CarillonDesk$Reader", "openGroup", "()V"⟩, 16), (⟨"CarillonDesk$Reader", "readNumber", "(II)I"⟩, 16), (⟨"CarillonDesk$Reader", "fail", "(II)V"⟩, 16), (⟨"CarillonDesk$Reader", "expect", "(C)V"⟩, 16), (⟨"CarillonDesk$Reader", "closeGroup", "()V"⟩, 16), (⟨"CarillonDesk$Reader", "readItem", "(I)V"⟩, 16), (⟨"CarillonDesk$Reader", "readBell", "()I"⟩, 16), (⟨"CarillonDesk$Reader", "readChord", "()V"⟩, 16), (⟨"CarillonDesk$Reader", "readLength", "()V"⟩, 16), (⟨"CarillonDesk$Reader", "writeItem", "(ZI)V"⟩, 16), (⟨"CarillonDesk", "theSetting", "()LCarillonDesk$Setting;"⟩, 8), (⟨"CarillonDesk$Setting", "leastRest", "(II)I"⟩, 8), (⟨"CarillonDesk$Setting", "costBy", "(IIII)I"⟩, 8)]
theorem lw_r1 : ∀ q ∈ lw_privs_1, lw_okq q := List.forall_mem_cons.mpr ⟨lw_p0, List.forall_mem_cons.mpr ⟨lw_p1, List.forall_mem_cons.mpr ⟨lw_p2, List.forall_mem_cons.mpr ⟨lw_p3, List.forall_mem_cons.mpr ⟨lw_p4, List.forall_mem_cons.mpr ⟨lw_p5, List.forall_mem_cons.mpr ⟨lw_p6, List.forall_mem_cons.mpr ⟨lw_p7, List.forall_mem_cons.mpr ⟨lw_p8, List.forall_mem_cons.mpr ⟨lw_p9, List.forall_mem_cons.mpr ⟨lw_p10, List.forall_mem_cons.mpr ⟨lw_p11, List.forall_mem_cons.mpr ⟨lw_p12, List.forall_mem_cons.mpr ⟨lw_p13, List.forall_mem_cons.mpr ⟨lw_p14, List.forall_mem_cons.mpr ⟨lw_p15, fun _ h => absurd h List.not_mem_nil⟩⟩⟩⟩⟩⟩⟩⟩⟩⟩⟩⟩⟩⟩⟩⟩
theorem lw_p16 : lw_okq (⟨"CarillonDesk$Setting", "moveTo", "(II)I"⟩, 8) := ⟨⟨by decide +kernel, by decide +kernel⟩, List.mem_of_getElem? (i := 244) (by decide +kernel), List.mem_of_getElem? (i := 477) (by decide +kernel), List.mem_of_getElem? (i := 478) (by decide +kernel)⟩
theorem lw_p17 : lw_okq (⟨"CarillonDesk$Setting", "walk", "()V"⟩, 8) := ⟨⟨by decide +kernel, by decide +kernel⟩, List.mem_of_getElem? (i := 244) (by decide +kernel), List.mem_of_getElem? (i := 491) (by decide +kernel), List.mem_of_getElem? (i := 492) (by decide +kernel)⟩
theorem lw_p18 : lw_okq (⟨"CarillonDesk$Need", "handOver", "(II)I"⟩, 2) := ⟨⟨by decide +kernel, by decide +kernel⟩, List.mem_of_getElem? (i := 280) (by decide +kernel), List.mem_of_getElem? (i := 511) (by decide +kernel), List.mem_of_getElem? (i := 512) (by decide +kernel)⟩
theorem lw_p19 : lw_okq (⟨"CarillonDesk$Need", "reachFor", "(II)I"⟩, 2) := ⟨⟨by decide +kernel, by decide +kernel⟩, List.mem_of_getElem? (i := 280) (by decide +kernel), List.mem_of_getElem? (i := 515) (by decide +kernel), List.mem_of_getElem? (i := 516) (by decide +kernel)⟩
theorem lw_p20 : lw_okq (⟨"CarillonDesk$Need", "stay", "(II)V"⟩, 2) := ⟨⟨by decide +kernel, by decide +kernel⟩, List.mem_of_getElem? (i := 280) (by decide +kernel), List.mem_of_getElem? (i := 522) (by decide +kernel), List.mem_of_getElem? (i := 523) (by decide +kernel)⟩
theorem lw_p21 : lw_okq (⟨"CarillonDesk$Tones", "canQuarrel", "(LCarillonDesk$Score;II)Z"⟩, 3) := ⟨⟨by decide +kernel, by decide +kernel⟩, List.mem_of_getElem? (i := 149) (by decide +kernel), List.mem_of_getElem? (i := 558) (by decide +kernel), List.mem_of_getElem? (i := 559) (by decide +kernel)⟩
theorem lw_p22 : lw_okq (⟨"CarillonDesk$Tones", "ticksTogether", "(LCarillonDesk$Score;II)I"⟩, 3) := ⟨⟨by decide +kernel, by decide +kernel⟩, List.mem_of_getElem? (i := 149) (by decide +kernel), List.mem_of_getElem? (i := 563) (by decide +kernel), List.mem_of_getElem? (i := 564) (by decide +kernel)⟩
theorem lw_p23 : lw_okq (⟨"CarillonDeskModel", "next", "()I"⟩, 23) := ⟨⟨by decide +kernel, by decide +kernel⟩, List.mem_of_getElem? (i := 670) (by decide +kernel), List.mem_of_getElem? (i := 768) (by decide +kernel), List.mem_of_getElem? (i := 769) (by decide +kernel)⟩
theorem lw_p24 : lw_okq (⟨"CarillonDeskModel", "group", "()V"⟩, 23) := ⟨⟨by decide +kernel, by decide +kernel⟩, List.mem_of_getElem? (i := 670) (by decide +kernel), List.mem_of_getElem? (i := 775) (by decide +kernel), List.mem_of_getElem? (i := 776) (by decide +kernel)⟩
theorem lw_p25 : lw_okq (⟨"CarillonDeskModel", "number", "(II)I"⟩, 23) := ⟨⟨by decide +kernel, by decide +kernel⟩, List.mem_of_getElem? (i := 670) (by decide +kernel), List.mem_of_getElem? (i := 779) (by decide +kernel), List.mem_of_getElem? (i := 780) (by decide +kernel)⟩
theorem lw_p26 : lw_okq (⟨"CarillonDeskModel", "fail", "(II)V"⟩, 23) := ⟨⟨by decide +kernel, by decide +kernel⟩, List.mem_of_getElem? (i := 670) (by decide +kernel), List.mem_of_getElem? (i := 783) (by decide +kernel), List.mem_of_getElem? (i := 784) (by decide +kernel)⟩
theorem lw_p27 : lw_okq (⟨"CarillonDeskModel", "sign", "(I)V"⟩, 23) := ⟨⟨by decide +kernel, by decide +kernel⟩, List.mem_of_getElem? (i := 670) (by decide +kernel), List.mem_of_getElem? (i := 787) (by decide +kernel), List.mem_of_getElem? (i := 788) (by decide +kernel)⟩
theorem lw_p28 : lw_okq (⟨"CarillonDeskModel", "ends", "()V"⟩, 23) := ⟨⟨by decide +kernel, by decide +kernel⟩, List.mem_of_getElem? (i := 670) (by decide +kernel), List.mem_of_getElem? (i := 791) (by decide +kernel), List.mem_of_getElem? (i := 792) (by decide +kernel)⟩
theorem lw_p29 : lw_okq (⟨"CarillonDeskModel", "item", "()V"⟩, 23) := ⟨⟨by decide +kernel, by decide +kernel⟩, List.mem_of_getElem? (i := 670) (by decide +kernel), List.mem_of_getElem? (i := 795) (by decide +kernel), List.mem_of_getElem? (i := 796) (by decide +kernel)⟩
theorem lw_p30 : lw_okq (⟨"CarillonDeskModel", "length", "(I)I"⟩, 23) := ⟨⟨by decide +kernel, by decide +kernel⟩, List.mem_of_getElem? (i := 670) (by decide +kernel), List.mem_of_getElem? (i := 799) (by decide +kernel), List.mem_of_getElem? (i := 800) (by decide +kernel)⟩
theorem lw_p31 : lw_okq (⟨"CarillonDeskModel", "strikesHere", "(III)V"⟩, 23) := ⟨⟨by decide +kernel, by decide +kernel⟩, List.mem_of_getElem? (i := 670) (by decide +kernel), List.mem_of_getElem? (i := 803) (by decide +kernel), List.mem_of_getElem? (i := 804) (by decide +kernel)⟩
def lw_privs_2 : List (MethodName × Nat) := [(⟨"CarillonDesk$Setting", "moveTo", "(II)I"⟩, 8), (⟨"CarillonDesk$Setting", "walk", "()V"⟩, 8), (⟨"CarillonDesk$Need", "handOver", "(II)I"⟩, 2), (⟨"CarillonDesk$Need", "reachFor", "(II)I"⟩, 2), (⟨"CarillonDesk$Need", "stay", "(II)V"⟩, 2), (⟨"CarillonDesk$Tones", "canQuarrel", "(LCarillonDesk$Score;II)Z"⟩, 3), (⟨"CarillonDesk$Tones", "ticksTogether", "(LCarillonDesk$Score;II)I"⟩, 3), (⟨"CarillonDeskModel", "next", "()I"⟩, 23), (⟨"CarillonDeskModel", "group", "()V"⟩, 23), (⟨"CarillonDeskModel", "number", "(II)I"⟩, 23), (⟨"CarillonDeskModel", "fail", "(II)V"⟩, 23), (⟨"CarillonDeskModel", "sign", "(I)V"⟩, 23), (⟨"CarillonDeskModel", "ends", "()V"⟩, 23), (⟨"CarillonDeskModel", "item", "()V"⟩, 23), (⟨"CarillonDeskModel", "length", "(I)I"⟩, 23), (⟨"CarillonDeskModel", "strikesHere", "(III)V"⟩, 23)]
theorem lw_r2 : ∀ q ∈ lw_privs_2, lw_okq q := List.forall_mem_cons.mpr ⟨lw_p16, List.forall_mem_cons.mpr ⟨lw_p17, List.forall_mem_cons.mpr ⟨lw_p18, List.forall_mem_cons.mpr ⟨lw_p19, List.forall_mem_cons.mpr ⟨lw_p20, List.forall_mem_cons.mpr ⟨lw_p21, List.forall_mem_cons.mpr ⟨lw_p22, List.forall_mem_cons.mpr ⟨lw_p23, List.forall_mem_cons.mpr ⟨lw_p24, List.forall_mem_cons.mpr ⟨lw_p25, List.forall_mem_cons.mpr ⟨lw_p26, List.forall_mem_cons.mpr ⟨lw_p27, List.forall_mem_cons.mpr ⟨lw_p28, List.forall_mem_cons.mpr ⟨lw_p29, List.forall_mem_cons.mpr ⟨lw_p30, List.forall_mem_cons.mpr ⟨lw_p31, fun _ h => absurd h List.not_mem_nil⟩⟩⟩⟩⟩⟩⟩⟩⟩⟩⟩⟩⟩⟩⟩⟩
theorem lw_p32 : lw_okq (⟨"CarillonDeskModel", "sets", "()I"⟩, 23) := ⟨⟨by decide +kernel, by decide +kernel⟩, List.mem_of_getElem? (i := 670) (by decide +kernel), List.mem_of_getElem? (i := 823) (by decide +kernel), List.mem_of_getElem? (i := 824) (by decide +kernel)⟩
theorem lw_p33 : lw_okq (⟨"CarillonDeskModel", "weighs", "(II)I"⟩, 23) := ⟨⟨by decide +kernel, by decide +kernel⟩, List.mem_of_getElem? (i := 670) (by decide +kernel), List.mem_of_getElem? (i := 827) (by decide +kernel), List.mem_of_getElem? (i := 828) (by decide +kernel)⟩
theorem lw_p34 : lw_okq (⟨"CarillonDeskModel", "place", "(III)I"⟩, 23) := ⟨⟨by decide +kernel, by decide +kernel⟩, List.mem_of_getElem? (i := 670) (by decide +kernel), List.mem_of_getElem? (i := 831) (by decide +kernel), List.mem_of_getElem? (i := 832) (by decide +kernel)⟩
theorem lw_p35 : lw_okq (⟨"CarillonDeskModel", "costOf", "(IIIIII)I"⟩, 23) := ⟨⟨by decide +kernel, by decide +kernel⟩, List.mem_of_getElem? (i := 670) (by decide +kernel), List.mem_of_getElem? (i := 836) (by decide +kernel), List.mem_of_getElem? (i := 837) (by decide +kernel)⟩
theorem lw_p36 : lw_okq (⟨"CarillonDeskModel", "isCrossed", "(II)Z"⟩, 23) := ⟨⟨by decide +kernel, by decide +kernel⟩, List.mem_of_getElem? (i := 670) (by decide +kernel), List.mem_of_getElem? (i := 840) (by decide +kernel), List.mem_of_getElem? (i := 841) (by decide +kernel)⟩
theorem lw_p37 : lw_okq (⟨"CarillonDeskModel", "moves", "(III)I"⟩, 23) := ⟨⟨by decide +kernel, by decide +kernel⟩, List.mem_of_getElem? (i := 670) (by decide +kernel), List.mem_of_getElem? (i := 844) (by decide +kernel), List.mem_of_getElem? (i := 845) (by decide +kernel)⟩
theorem lw_p38 : lw_okq (⟨"CarillonDeskModel", "behind", "(IIII)I"⟩, 23) := ⟨⟨by decide +kernel, by decide +kernel⟩, List.mem_of_getElem? (i := 670) (by decide +kernel), List.mem_of_getElem? (i := 848) (by decide +kernel), List.mem_of_getElem? (i := 849) (by decide +kernel)⟩
theorem lw_p39 : lw_okq (⟨"CarillonDeskModel", "stepOf", "(II)I"⟩, 23) := ⟨⟨by decide +kernel, by decide +kernel⟩, List.mem_of_getElem? (i := 670) (by decide +kernel), List.mem_of_getElem? (i := 896) (by decide +kernel), List.mem_of_getElem? (i := 897) (by decide +kernel)⟩
def lw_privs_3 : List (MethodName × Nat) := [(⟨"CarillonDeskModel", "sets", "()I"⟩, 23), (⟨"CarillonDeskModel", "weighs", "(II)I"⟩, 23), (⟨"CarillonDeskModel", "place", "(III)I"⟩, 23), (⟨"CarillonDeskModel", "costOf", "(IIIIII)I"⟩, 23), (⟨"CarillonDeskModel", "isCrossed", "(II)Z"⟩, 23), (⟨"CarillonDeskModel", "moves", "(III)I"⟩, 23), (⟨"CarillonDeskModel", "behind", "(IIII)I"⟩, 23), (⟨"CarillonDeskModel", "stepOf", "(II)I"⟩, 23)]
theorem lw_r3 : ∀ q ∈ lw_privs_3, lw_okq q := List.forall_mem_cons.mpr ⟨lw_p32, List.forall_mem_cons.mpr ⟨lw_p33, List.forall_mem_cons.mpr ⟨lw_p34, List.forall_mem_cons.mpr ⟨lw_p35, List.forall_mem_cons.mpr ⟨lw_p36, List.forall_mem_cons.mpr ⟨lw_p37, List.forall_mem_cons.mpr ⟨lw_p38, List.forall_mem_cons.mpr ⟨lw_p39, fun _ h => absurd h List.not_mem_nil⟩⟩⟩⟩⟩⟩⟩⟩
def lw_privs : List (MethodName × Nat) := lw_privs_1 ++ (lw_privs_2 ++ (lw_privs_3))
def lw_tbl : List Cond := k2_sels lw_privs ++ tables_1
theorem lw_privs_ok : ∀ q ∈ lw_privs, lw_okq q := by
  show ∀ q ∈ lw_privs_1 ++ (lw_privs_2 ++ (lw_privs_3)), lw_okq q
  exact List.forall_mem_append.mpr ⟨lw_r1, List.forall_mem_append.mpr ⟨lw_r2, lw_r3⟩⟩
-- ===== end of PART A; then your names; then what follows =====
/-! THE CLAIM OUT OF ONE WALK OF THE LAW'S BODY. Your part is whole_start (and what it stands on); all else here is the same for every law, but numbers. -/
def R_law : String := "CarillonDeskLaw"
def lw_P (b : Addr) (xs : List Int32) (args : Array Value) (s : State) : Prop := args = #[.ref b] ∧ s.IntsAt b xs ∧ xs.length ≤ 3072 ∧ (Jvm.Cond.and given_1 narrow_1).before args s = true
def lw_Q (_ : Array Value) (s : State) (o : Outcome) (t : State) : Prop := o = .returned (some (.int 1)) ∧ Framed s o t [] 600000 7302250
def lw_Z (below : List Frame) (a : Array Value) (s : State) : State → Prop := fun t => ∃ o, t.status = .running ∧ Ended t below o ∧ lw_Q a s o t
/-- the law's own end, with 1 on the stack, nothing written that was there before, its room as the claim has it -/
theorem lw_ret {p : Program} {l : Launch} {e : Env} {s : State} {m : MethodId} {below : List Frame} {meth : Method} {c : Code} {b : Nat} (hx : p.tables.exec = Jvm.exec) (hb : c.code = code) (hr : meth.sig.returnType = ret) (hlocks : meth.locks = false) {pc : Nat} {H : Heap} {ls : Array Slot} (hdg : decode code pc = .ok (.ireturn, 1)) : W p l e room_1 s m #[Value.ref b] below meth c H [] 600000 7302250 (lw_Z below #[Value.ref b] s) (F0 m pc ls [.int 1]) := by
  intro T hT X
  obtain ⟨fs, hret, hrun, hended, hW, hframe⟩ := X.leave (v := some (.int 1)) (hlocks := hlocks) (fun h => by rw [hr] at h; cases h)
  have hmeth' : T.vm.method? m = some meth := X.method'
  refine ⟨T.setFrames fs, ?_, .returned (some (.int 1)), hrun, hended, rfl, ⟨_, rfl⟩, hW, hframe⟩
  jvm_step X.here [X.here.top, hx, hb, hdg, hmeth', hr, ret, narrow_b1]
  (try refine ⟨rfl, ?_⟩); (try refine ⟨rfl, ?_⟩)
  first | (intro acts; rw [hret _ acts rfl rfl rfl]) | rw [hret _ _ rfl rfl rfl]
  exact Steps.refl _
/-- what holds at the law's entry: the machine, the code, the tables' words (any of lw_tbl by 'hts w (by decide +kernel)'), the script of L ints xs at the cell b, what the Statement gives of the start (any of its parts by flat_of_before) -/
def lw_At (p : Program) (s : State) (m : MethodId) (meth : Method) (c : Code) (b L : Nat) (xs : Nat → Int32) : Prop :=
  p.tables.exec = Jvm.exec ∧ c.code = code ∧ meth.sig.returnType = ret ∧ c.maxLocals = 4 ∧ s.vm.findClass R_law = some m.cls ∧ (∀ w ∈ lw_tbl, w.before #[Value.ref b] s = true) ∧ va_X b L xs s s.heap ∧ b < s.heap.size ∧ meth.locks = false ∧ (Jvm.Cond.and given_1 narrow_1).before #[Value.ref b] s = true
end
section
/-! ===== BEGIN words of one list among another's, by their places ===== -/
theorem goodIn_r {big : List Cond} (ws : List Cond) (ps : List Nat) (hp : ws = ps.filterMap (fun i => big[i]?)) (h : ws.all goodWord = true) : GoodIn big ws := by
  intro w hw
  have h1 := List.all_eq_true.mp h w hw
  rw [hp] at hw
  obtain ⟨i, -, hi⟩ := List.mem_filterMap.mp hw
  have hm : w ∈ big := by first | exact List.mem_of_getElem? hi | exact List.getElem?_mem hi
  exact ⟨hm, good_of_word h1⟩
theorem goodIn_app {big a b : List Cond} (ha : GoodIn big a) (hb : GoodIn big b) : GoodIn big (a ++ b) := fun w h => (List.mem_append.mp h).elim (ha w) (hb w)
theorem goodIn_ca {big a b : List Cond} {c : Cond} (ha : GoodIn big (c :: a)) (hb : GoodIn big b) : GoodIn big (c :: (a ++ b)) := fun w h => (List.mem_cons.mp h).elim (fun e => ha w (List.mem_cons.mpr (Or.inl e))) (fun h => (List.mem_append.mp h).elim (fun h => ha w (List.mem_cons.mpr (Or.inr h))) (hb w))
theorem goodIn_sub {big ws : List Cond} (hm : ∀ w ∈ ws, w ∈ big) (h : ws.all goodWord = true) : GoodIn big ws := fun w hw => ⟨hm w hw, good_of_word (List.all_eq_true.mp h w hw)⟩
/-! ===== END ===== -/

/-! ===== BEGIN new T[n][m]: the outer array a place, the inner ones among the pooled ===== -/
/-- f, but v at every address of l -/
def vr_up {α : Type} (f : Nat → α) (l : List Nat) (v : α) : Nat → α := fun a => if a ∈ l then v else f a
theorem vr_up_in {α : Type} {f : Nat → α} {l : List Nat} {v : α} {a : Nat} (h : a ∈ l) : vr_up f l v a = v := if_pos h
theorem vr_up_ne {α : Type} {f : Nat → α} {l : List Nat} {v : α} {a : Nat} (h : a ∉ l) : vr_up f l v a = f a := if_neg h
theorem vr_rows {L l : List Nat} {f : Nat → va_E} {e : va_E} (h : ∀ a, a ∈ l → a ∉ L) : va_pl L f ++ l.map (fun a => (a, e)) = va_pl (L ++ l) (vr_up f l e) := by
  unfold va_pl
  rw [List.map_append]
  congr 1
  · apply List.map_congr_left
    intro a ha
    rw [vr_up_ne (fun q => h a q ha)]
  · apply List.map_congr_left
    intro a ha
    rw [vr_up_in ha]
theorem vr_lay {X rows : va_W} {x : Nat × va_E} {pl : va_W} {D : va_G} {cl : List vw_C} {H : Heap} (hP : va_P D cl (((X ++ pl) ++ [x]) ++ rows) H) : va_P D cl ((X ++ [x]) ++ (pl ++ rows)) H := by
  rw [List.append_assoc (X ++ pl)] at hP
  have h := va_P.swap hP
  rw [← List.append_assoc X] at h
  have h2 := va_P.swap h
  rw [List.append_assoc (X ++ [x])] at h2
  exact h2
theorem vr_layD {X rows : va_W} {x : Nat × va_E} {pl : va_W} {A : Nat → Prop} (hD : va_D A (((X ++ pl) ++ [x]) ++ rows)) : va_D A ((X ++ [x]) ++ (pl ++ rows)) := by
  rw [List.append_assoc (X ++ pl)] at hD
  have h := va_D.swap hD
  rw [← List.append_assoc X] at h
  have h2 := va_D.swap h
  rw [List.append_assoc (X ++ [x])] at h2
  exact h2
theorem vr_outer (c : ClassId) (N h0 : Nat) : ∀ i : Nat, Jvm.Free.Multi.outerC c N h0 i = arrV c N (fun j => va_rf (if j < i then some (h0 + 1 + j) else none))
  | 0 => by
    show ({ cls := c, slots := Array.replicate N .null, vm := .none } : Cell) = _
    rw [arrV_new]
    refine congrArg (arrV c N) (funext fun j => ?_)
    simp [va_rf]
  | i + 1 => by
    show (Jvm.Free.Multi.outerC c N h0 i).setSlot i (.ref (h0 + 1 + i)) = _
    rw [vr_outer c N h0 i, arrV_store]
    refine congrArg (arrV c N) (funext fun j => ?_)
    by_cases e : j = i
    · subst e
      simp [updV, va_rf]
    · by_cases h : j < i
      · simp [updV, e, h, Nat.lt_succ_of_lt h]
      · simp [updV, e, h, show ¬ j < i + 1 by omega]
def va_AOA (ty : FieldType) (U : State) : Prop := (Cond.arrayOver (.array ty)).before #[] U = true
theorem va_AOA.use {ty : FieldType} {A : Array Value} {U : State} (h : va_AOA ty U) : (Cond.arrayOver (.array ty)).before A U = true := h
section VGM
variable {p : Program} {l : Launch} {e : Env} {R : Room} {s : State} {m : MethodId} {args : Array Value} {below : List Frame} {meth : Method} {c : Code} {H : Heap} {locs : List Loc} {cells slots : Nat} {Q : State → Prop}
variable {cc : ByteArray} {pc : Nat} {ls : Array Slot} {rest : List Value} {D : va_G} {cl : List vw_C} {A : Nat → Prop} {a : Nat} {tys : List (ClassId × FieldType)} {ws : va_W} {H0 : Heap}
theorem va_mna {X : va_W} {L : List Nat} {f : Nat → va_E} {cc : ByteArray} (hexec : p.tables.exec = Jvm.exec) (hb : c.code = cc) {own : String} {index : Nat} {ty : FieldType} {cy : ClassId} (hown : s.vm.findClass own = some m.cls) (hclink : (Cond.classLink own index ("[" ++ (FieldType.array ty).toString)).before args s = true) (hover : va_AOA ty s) (harr : (Cond.arrayClass ty).before args s = true) (hcy : s.vm.findClass (FieldType.array ty).toString = some cy)
    (hK : va_K D cl tys s) (hP : va_P D cl (X ++ va_pl L f) H) (hD : va_D A (X ++ va_pl L f)) (hS : va_S A H0 H locs) (hA : ∀ q, H0.size ≤ q → A q) {n k : Int32} {N' K' : Nat} {z : vp_A} (hn : ¬ n < 0) (hk : ¬ k < 0) (hN : n.toNatClampNeg = N') (hM : k.toNatClampNeg = K')
    (hb1 : N' * 4 ≤ 536870912) (hb2 : K' * componentBytes ty ≤ 536870912) (hb3 : K' ≤ 536870912) (hdf : fits ty (defaultValue ty) = true) (hdd : (defaultValue ty).isDefault = true) (hcells : cells + (1 + N') ≤ R.cells) (hslots : slots + (N' + N' * K') ≤ R.slots) (hz : ∀ c : ClassId, Jvm.Free.Multi.innerC c K' (defaultValue ty) = vp_cell c z) (hdg : decode cc pc = .ok (.multianewarray index 2, 4))
    (kk : ∀ (q : Nat) (r : Nat → Nat) (cA : ClassId) (H1 : Heap), (∀ i j : Nat, i < N' → j < N' → r i = r j → i = j) → (∀ i : Nat, i < N' → r i ∉ L) → va_K D cl (tys ++ [(cA, .array ty)]) s →
      va_P D cl ((X ++ [(q, .inl (cA, N', .inr (.inr (.inr (.inr (fun i => if i < N' then some (r i) else none))))))]) ++ va_pl (L ++ (List.range N').map r) (vr_up f ((List.range N').map r) (.inl (cy, z)))) H1 → va_D A ((X ++ [(q, .inl (cA, N', .inr (.inr (.inr (.inr (fun i => if i < N' then some (r i) else none))))))]) ++ va_pl (L ++ (List.range N').map r) (vr_up f ((List.range N').map r) (.inl (cy, z)))) → va_S A H0 H1 locs →
      W p l e R s m args below meth c H1 locs (cells + 1 + N') (slots + N' + N' * K') Q (F0 m (pc + 4) ls (.ref q :: rest))) : W p l e R s m args below meth c H locs cells slots Q (F0 m pc ls (.int k :: .int n :: rest)) := by
  subst hN
  subst hM
  intro T hT Xs
  obtain ⟨vm₁, cA, comp, -, fA, fC, hO, -, X', step⟩ := Xs.multianewarray2F hexec hown hclink (va_AOA.use hover) harr (g := F0 m pc ls (.int k :: .int n :: rest)) rfl (by rw [hb]; exact hdg) rfl hn hk hb1 hb2 hb3 hdf hdd hcells hslots
  have ec : some cy = some comp := hcy.symm.trans fC
  cases ec
  generalize hF : Jvm.Free.Multi.fill (T.setVm vm₁) cA cy n.toNatClampNeg k.toNatClampNeg (defaultValue ty) n.toNatClampNeg = F at X' step
  have hTh : (T.setVm vm₁).heap = H := hT
  obtain ⟨f1, f2, -, -⟩ := Jvm.Free.Multi.fill_facts (T.setVm vm₁) cA cy n.toNatClampNeg k.toNatClampNeg (defaultValue ty) n.toNatClampNeg
  rw [hF, hTh] at f1 f2
  have hold : ∀ x : Nat, x < H.size → F.heap[x]? = H[x]? := fun x hx => by
    have := Jvm.Free.Multi.fill_old (T.setVm vm₁) cA cy n.toNatClampNeg k.toNatClampNeg (defaultValue ty) (a := x) (by rw [hTh]; exact hx) n.toNatClampNeg
    rw [hF, hTh] at this
    exact this
  have hrow : ∀ j : Nat, j < n.toNatClampNeg → F.heap[H.size + 1 + j]? = some (vp_cell cy z) := fun j hj => by
    have := Jvm.Free.Multi.fill_inner (T.setVm vm₁) cA cy n.toNatClampNeg k.toNatClampNeg (defaultValue ty) n.toNatClampNeg j hj
    rw [hF, hTh, hz] at this
    exact this
  have hout : Jvm.Free.Multi.outerC cA n.toNatClampNeg H.size n.toNatClampNeg = vp_cell cA (n.toNatClampNeg, .inr (.inr (.inr (.inr (fun i => if i < n.toNatClampNeg then some (H.size + 1 + i) else none))))) := by
    rw [vp_cell_q]
    exact vr_outer cA n.toNatClampNeg H.size n.toNatClampNeg
  rw [hout] at f2
  have hlt : ∀ a, a ∈ L → a < H.size := fun a ha => by
    obtain ⟨k9, hk9⟩ := va_pl_get (X := X) (f := f) ha
    exact (hP k9 _ hk9).lt
  have hnl : ∀ i : Nat, i < n.toNatClampNeg → H.size + 1 + i ∉ L := fun i _ h => by
    have := hlt _ h
    omega
  have hnm : ∀ a, a ∈ (List.range n.toNatClampNeg).map (fun i => H.size + 1 + i) → a ∉ L := fun a ha h => by
    obtain ⟨i, -, rfl⟩ := List.mem_map.mp ha
    have := hlt _ h
    omega
  have hP0 : va_P D cl (X ++ va_pl L f) F.heap := hP.kept (fun k9 x hx => hold x.1 ((hP k9 x hx).lt))
  have hP1 : va_P D cl ((X ++ va_pl L f) ++ [(H.size, .inl (cA, n.toNatClampNeg, .inr (.inr (.inr (.inr (fun i => if i < n.toNatClampNeg then some (H.size + 1 + i) else none))))))]) F.heap := hP0.app (fun k9 x hx => by
    have h0 : k9 < 1 := (List.getElem?_eq_some_iff.mp hx).1
    rw [show k9 = 0 by omega] at hx
    cases hx
    exact f2)
  have hP2 : va_P D cl (((X ++ va_pl L f) ++ [(H.size, .inl (cA, n.toNatClampNeg, .inr (.inr (.inr (.inr (fun i => if i < n.toNatClampNeg then some (H.size + 1 + i) else none))))))]) ++ ((List.range n.toNatClampNeg).map (fun i => H.size + 1 + i)).map (fun a => (a, .inl (cy, z)))) F.heap := hP1.app (fun k9 x hx => by
    obtain ⟨a, ha, rfl⟩ := List.mem_map.mp (List.mem_of_getElem? hx)
    obtain ⟨i, hi, rfl⟩ := List.mem_map.mp ha
    exact hrow i (List.mem_range.mp hi))
  have hD2 : va_D A (((X ++ va_pl L f) ++ [(H.size, .inl (cA, n.toNatClampNeg, .inr (.inr (.inr (.inr (fun i => if i < n.toNatClampNeg then some (H.size + 1 + i) else none))))))]) ++ ((List.range n.toNatClampNeg).map (fun i => H.size + 1 + i)).map (fun a => (a, .inl (cy, z)))) := by
    have hD1 := hD.push (e := .inl (cA, n.toNatClampNeg, .inr (.inr (.inr (.inr (fun i => if i < n.toNatClampNeg then some (H.size + 1 + i) else none)))))) hP rfl (hA _ hS.1)
    generalize hW1 : (X ++ va_pl L f) ++ [(H.size, .inl (cA, n.toNatClampNeg, .inr (.inr (.inr (.inr (fun i => if i < n.toNatClampNeg then some (H.size + 1 + i) else none))))))] = W1 at hD1 hP1 ⊢
    have hle : ∀ (k9 : Nat) (x : Nat × va_E), W1[k9]? = some x → x.1 ≤ H.size := fun k9 x hx => by
      rw [← hW1] at hx
      by_cases hl : k9 < (X ++ va_pl L f).length
      · rw [List.getElem?_append_left hl] at hx
        exact Nat.le_of_lt ((hP k9 x hx).lt)
      · rw [List.getElem?_append_right (by omega)] at hx
        have h0 : k9 - (X ++ va_pl L f).length < 1 := (List.getElem?_eq_some_iff.mp hx).1
        rw [show k9 - (X ++ va_pl L f).length = 0 by omega] at hx
        cases hx
        exact Nat.le_refl _
    have hr : ∀ (k9 : Nat) (x : Nat × va_E), (((List.range n.toNatClampNeg).map (fun i => H.size + 1 + i)).map (fun a => ((a, .inl (cy, z)) : Nat × va_E)))[k9]? = some x → x.1 = H.size + 1 + k9 := fun k9 x hx => by
      rw [List.getElem?_map, List.getElem?_map] at hx
      by_cases h9 : k9 < n.toNatClampNeg
      · rw [List.getElem?_range h9] at hx
        cases hx
        rfl
      · have hn0 : (List.range n.toNatClampNeg)[k9]? = none := List.getElem?_eq_none (by rw [List.length_range]; omega)
        rw [hn0] at hx
        cases hx
    refine ⟨fun i j x y hi hj hxy => ?_, fun k9 x hx => ?_⟩
    · by_cases h1 : i < W1.length <;> by_cases h2 : j < W1.length
      · rw [List.getElem?_append_left h1] at hi
        rw [List.getElem?_append_left h2] at hj
        exact hD1.1 i j x y hi hj hxy
      · rw [List.getElem?_append_left h1] at hi
        rw [List.getElem?_append_right (by omega)] at hj
        have := hle _ _ hi
        have := hr _ _ hj
        omega
      · rw [List.getElem?_append_right (by omega)] at hi
        rw [List.getElem?_append_left h2] at hj
        have := hle _ _ hj
        have := hr _ _ hi
        omega
      · rw [List.getElem?_append_right (by omega)] at hi hj
        have := hr _ _ hi
        have := hr _ _ hj
        omega
    · by_cases h1 : k9 < W1.length
      · rw [List.getElem?_append_left h1] at hx
        exact hD1.2 k9 x hx
      · rw [List.getElem?_append_right (by omega)] at hx
        have := hr _ _ hx
        exact hA _ (by have := hS.1; omega)
  have hAr : ArrOfT s cA (.array ty) := fun N9 z9 => by
    obtain ⟨-, k9, hk9, cm9, hkk9⟩ := (hO 0 0 0).1
    exact ⟨(fun q hq => by cases hq), k9, hk9, cm9, hkk9⟩
  have hK2 : va_K D cl (tys ++ [(cA, .array ty)]) s := ⟨hK.1, fun k9 x hx => by
    by_cases hl : k9 < tys.length
    · rw [List.getElem?_append_left hl] at hx
      exact hK.2 k9 x hx
    · rw [List.getElem?_append_right (by omega)] at hx
      have h0 : k9 - tys.length < 1 := (List.getElem?_eq_some_iff.mp hx).1
      rw [show k9 - tys.length = 0 by omega] at hx
      cases hx
      exact ⟨hAr, fA⟩⟩
  obtain ⟨t, a1, b1⟩ := kk H.size (fun i => H.size + 1 + i) cA F.heap (fun i j _ _ h => by have h9 : H.size + 1 + i = H.size + 1 + j := h; omega) hnl hK2 (by rw [← vr_rows hnm]; exact vr_lay hP2) (by rw [← vr_rows hnm]; exact vr_layD hD2) ⟨by rw [f1]; have := hS.1; omega, fun x h1 h2 => (hold x (Nat.lt_of_lt_of_le h1 hS.1)).trans (hS.2.1 x h1 h2), hS.2.2⟩ F rfl X'
  refine ⟨t, step t ?_, b1⟩
  have e : T.heap.size = H.size := by rw [hT]
  rw [e]
  exact a1
end VGM
/-! ===== END ===== -/

/-! ===== BEGIN printed: names, fields, word lists, decode rows ===== -/
def RX0 : String := "CarillonDesk$Clappers"
def TX0 : u_T := fun k => match k with
  | _ => ("CarillonDesk$Clappers", "struck", "[J", true)
def tyX0 : Nat → FieldType := fun k => match k with
  | _ => .array .long
abbrev wsX00 : List Cond := u_ws RX0 TX0 1
theorem nmX0 : ∀ a, a < 1 → ∀ b, b < 1 → a ≠ b → (TX0 a).2.1 ≠ (TX0 b).2.1 := by decide +kernel
theorem tyX0_ok : ∀ k, k < 1 → parseFieldDescriptor (TX0 k).2.2.1 = some (tyX0 k) := by decide +kernel
abbrev cX0_init : ByteArray := prog_2_method_1_code
def yX0_init : MethodName := ⟨RX0, "<init>", "()V"⟩
abbrev cX0_playByFists : ByteArray := prog_2_method_2_code
def yX0_playByFists : MethodName := ⟨RX0, "playByFists", "(LCarillonDesk$Score;LCarillonDesk$Setting;)I"⟩
abbrev cX0_playByDrum : ByteArray := prog_2_method_3_code
def yX0_playByDrum : MethodName := ⟨RX0, "playByDrum", "(LCarillonDesk$Drum;)I"⟩
abbrev cX0_wornAt : ByteArray := prog_2_method_4_code
def yX0_wornAt : MethodName := ⟨RX0, "wornAt", "(I)I"⟩
abbrev cX0_copyFrom : ByteArray := prog_2_method_5_code
def yX0_copyFrom : MethodName := ⟨RX0, "copyFrom", "(LCarillonDesk$Clappers;)V"⟩
def RX1 : String := "CarillonDesk$Drum"
def TX1 : u_T := fun k => match k with
  | 0 => ("CarillonDesk$Drum", "pinSteps", "[I", true)
  | 1 => ("CarillonDesk$Drum", "pinBells", "[I", true)
  | 2 => ("CarillonDesk$Drum", "size", "I", false)
  | 3 => ("CarillonDesk$Drum", "steps", "I", false)
  | _ => ("CarillonDesk$Drum", "latestTurn", "I", false)
def tyX1 : Nat → FieldType := fun k => match k with
  | 0 => .array .int
  | 1 => .array .int
  | 2 => .int
  | 3 => .int
  | _ => .int
abbrev wsX10 : List Cond := u_ws RX1 TX1 5
theorem nmX1 : ∀ a, a < 5 → ∀ b, b < 5 → a ≠ b → (TX1 a).2.1 ≠ (TX1 b).2.1 := by decide +kernel
theorem tyX1_ok : ∀ k, k < 5 → parseFieldDescriptor (TX1 k).2.2.1 = some (tyX1 k) := by decide +kernel
abbrev cX1_init : ByteArray := prog_3_method_1_code
def yX1_init : MethodName := ⟨RX1, "<init>", "()V"⟩
abbrev cX1_renew : ByteArray := prog_3_method_2_code
def yX1_renew : MethodName := ⟨RX1, "renew", "(I)V"⟩
abbrev cX1_hasPin : ByteArray := prog_3_method_3_code
def yX1_hasPin : MethodName := ⟨RX1, "hasPin", "(II)Z"⟩
abbrev cX1_fits : ByteArray := prog_3_method_4_code
def yX1_fits : MethodName := ⟨RX1, "fits", "(LCarillonDesk$Score;)Z"⟩
abbrev cX1_pinDown : ByteArray := prog_3_method_5_code
def yX1_pinDown : MethodName := ⟨RX1, "pinDown", "(LCarillonDesk$Score;I)V"⟩
abbrev cX1_copyFrom : ByteArray := prog_3_method_6_code
def yX1_copyFrom : MethodName := ⟨RX1, "copyFrom", "(LCarillonDesk$Drum;)V"⟩
def RX2 : String := "CarillonDesk$Matter"
def TX2 : u_T := fun k => match k with
  | 0 => ("CarillonDesk$Matter", "music", "LCarillonDesk$Score;", true)
  | 1 => ("CarillonDesk$Matter", "tones", "LCarillonDesk$Tones;", true)
  | 2 => ("CarillonDesk$Matter", "barrel", "LCarillonDesk$Drum;", true)
  | 3 => ("CarillonDesk$Matter", "clappers", "LCarillonDesk$Clappers;", true)
  | 4 => ("CarillonDesk$Matter", "faultKind", "I", false)
  | 5 => ("CarillonDesk$Matter", "faultPlace", "I", false)
  | 6 => ("CarillonDesk$Matter", "reach", "I", false)
  | _ => ("CarillonDesk$Matter", "price", "I", false)
def tyX2 : Nat → FieldType := fun k => match k with
  | 0 => .object "CarillonDesk$Score"
  | 1 => .object "CarillonDesk$Tones"
  | 2 => .object "CarillonDesk$Drum"
  | 3 => .object "CarillonDesk$Clappers"
  | 4 => .int
  | 5 => .int
  | 6 => .int
  | _ => .int
abbrev wsX20 : List Cond := u_ws RX2 TX2 8
theorem nmX2 : ∀ a, a < 8 → ∀ b, b < 8 → a ≠ b → (TX2 a).2.1 ≠ (TX2 b).2.1 := by decide +kernel
theorem tyX2_ok : ∀ k, k < 8 → parseFieldDescriptor (TX2 k).2.2.1 = some (tyX2 k) := by decide +kernel
abbrev cX2_init : ByteArray := prog_4_method_1_code
def yX2_init : MethodName := ⟨RX2, "<init>", "()V"⟩
abbrev cX2_copyFrom : ByteArray := prog_4_method_2_code
def yX2_copyFrom : MethodName := ⟨RX2, "copyFrom", "(LCarillonDesk$Matter;)V"⟩
def RX3 : String := "CarillonDesk$Need"
def TX3 : u_T := fun k => match k with
  | 0 => ("CarillonDesk$Need", "music", "LCarillonDesk$Score;", true)
  | _ => ("CarillonDesk$Need", "soFar", "[[I", true)
def tyX3 : Nat → FieldType := fun k => match k with
  | 0 => .object "CarillonDesk$Score"
  | _ => .array (.array .int)
abbrev wsX30 : List Cond := u_ws RX3 TX3 2
theorem nmX3 : ∀ a, a < 2 → ∀ b, b < 2 → a ≠ b → (TX3 a).2.1 ≠ (TX3 b).2.1 := by decide +kernel
theorem tyX3_ok : ∀ k, k < 2 → parseFieldDescriptor (TX3 k).2.2.1 = some (tyX3 k) := by decide +kernel
abbrev cX3_init : ByteArray := prog_5_method_1_code
def yX3_init : MethodName := ⟨RX3, "<init>", "(LCarillonDesk$Score;)V"⟩
abbrev cX3_leastReach : ByteArray := prog_5_method_2_code
def yX3_leastReach : MethodName := ⟨RX3, "leastReach", "()I"⟩
abbrev cX3_handOver : ByteArray := prog_5_method_3_code
def yX3_handOver : MethodName := ⟨RX3, "handOver", "(II)I"⟩
abbrev cX3_stay : ByteArray := prog_5_method_4_code
def yX3_stay : MethodName := ⟨RX3, "stay", "(II)V"⟩
abbrev cX3_reachFor : ByteArray := prog_5_method_5_code
def yX3_reachFor : MethodName := ⟨RX3, "reachFor", "(II)I"⟩
def RX4 : String := "CarillonDesk$Reader"
def TX4 : u_T := fun k => match k with
  | 0 => ("CarillonDesk$Reader", "draft", "LCarillonDesk$Score;", true)
  | 1 => ("CarillonDesk$Reader", "faultKind", "I", false)
  | 2 => ("CarillonDesk$Reader", "faultPlace", "I", false)
  | 3 => ("CarillonDesk$Reader", "tape", "LCarillonDesk$Tape;", true)
  | 4 => ("CarillonDesk$Reader", "bodyPlace", "[I", true)
  | 5 => ("CarillonDesk$Reader", "roundsLeft", "[I", true)
  | 6 => ("CarillonDesk$Reader", "lengthAhead", "[I", true)
  | 7 => ("CarillonDesk$Reader", "tickAhead", "[I", true)
  | 8 => ("CarillonDesk$Reader", "open", "I", false)
  | 9 => ("CarillonDesk$Reader", "place", "I", false)
  | 10 => ("CarillonDesk$Reader", "numberPlace", "I", false)
  | 11 => ("CarillonDesk$Reader", "length", "I", false)
  | 12 => ("CarillonDesk$Reader", "tick", "I", false)
  | 13 => ("CarillonDesk$Reader", "firstOfTwo", "I", false)
  | 14 => ("CarillonDesk$Reader", "secondOfTwo", "I", false)
  | _ => ("CarillonDesk$Reader", "bellMask", "I", false)
def tyX4 : Nat → FieldType := fun k => match k with
  | 0 => .object "CarillonDesk$Score"
  | 1 => .int
  | 2 => .int
  | 3 => .object "CarillonDesk$Tape"
  | 4 => .array .int
  | 5 => .array .int
  | 6 => .array .int
  | 7 => .array .int
  | 8 => .int
  | 9 => .int
  | 10 => .int
  | 11 => .int
  | 12 => .int
  | 13 => .int
  | 14 => .int
  | _ => .int
abbrev wsX40 : List Cond := u_ws RX4 TX4 16
theorem nmX4 : ∀ a, a < 16 → ∀ b, b < 16 → a ≠ b → (TX4 a).2.1 ≠ (TX4 b).2.1 := by decide +kernel
theorem tyX4_ok : ∀ k, k < 16 → parseFieldDescriptor (TX4 k).2.2.1 = some (tyX4 k) := by decide +kernel
abbrev cX4_init : ByteArray := prog_6_method_1_code
def yX4_init : MethodName := ⟨RX4, "<init>", "(LCarillonDesk$Tape;)V"⟩
abbrev cX4_readAll : ByteArray := prog_6_method_2_code
def yX4_readAll : MethodName := ⟨RX4, "readAll", "()Z"⟩
abbrev cX4_start : ByteArray := prog_6_method_3_code
def yX4_start : MethodName := ⟨RX4, "start", "()V"⟩
abbrev cX4_openGroup : ByteArray := prog_6_method_4_code
def yX4_openGroup : MethodName := ⟨RX4, "openGroup", "()V"⟩
abbrev cX4_closeGroup : ByteArray := prog_6_method_5_code
def yX4_closeGroup : MethodName := ⟨RX4, "closeGroup", "()V"⟩
abbrev cX4_readItem : ByteArray := prog_6_method_6_code
def yX4_readItem : MethodName := ⟨RX4, "readItem", "(I)V"⟩
abbrev cX4_readChord : ByteArray := prog_6_method_7_code
def yX4_readChord : MethodName := ⟨RX4, "readChord", "()V"⟩
abbrev cX4_readBell : ByteArray := prog_6_method_8_code
def yX4_readBell : MethodName := ⟨RX4, "readBell", "()I"⟩
abbrev cX4_readLength : ByteArray := prog_6_method_9_code
def yX4_readLength : MethodName := ⟨RX4, "readLength", "()V"⟩
abbrev cX4_writeItem : ByteArray := prog_6_method_10_code
def yX4_writeItem : MethodName := ⟨RX4, "writeItem", "(ZI)V"⟩
abbrev cX4_readNumber : ByteArray := prog_6_method_11_code
def yX4_readNumber : MethodName := ⟨RX4, "readNumber", "(II)I"⟩
abbrev cX4_expect : ByteArray := prog_6_method_12_code
def yX4_expect : MethodName := ⟨RX4, "expect", "(C)V"⟩
abbrev cX4_fail : ByteArray := prog_6_method_13_code
def yX4_fail : MethodName := ⟨RX4, "fail", "(II)V"⟩
abbrev cX4_nextSign : ByteArray := prog_6_method_14_code
def yX4_nextSign : MethodName := ⟨RX4, "nextSign", "()I"⟩
abbrev cX4_signHere : ByteArray := prog_6_method_15_code
def yX4_signHere : MethodName := ⟨RX4, "signHere", "()I"⟩
abbrev cX4_isDigit : ByteArray := prog_6_method_16_code
def yX4_isDigit : MethodName := ⟨RX4, "isDigit", "(I)Z"⟩
def RX5 : String := "CarillonDesk$Score"
def TX5 : u_T := fun k => match k with
  | 0 => ("CarillonDesk$Score", "ticks", "[I", true)
  | 1 => ("CarillonDesk$Score", "bells", "[I", true)
  | 2 => ("CarillonDesk$Score", "size", "I", false)
  | _ => ("CarillonDesk$Score", "behind", "I", false)
def tyX5 : Nat → FieldType := fun k => match k with
  | 0 => .array .int
  | 1 => .array .int
  | 2 => .int
  | _ => .int
abbrev wsX50 : List Cond := u_ws RX5 TX5 4
theorem nmX5 : ∀ a, a < 4 → ∀ b, b < 4 → a ≠ b → (TX5 a).2.1 ≠ (TX5 b).2.1 := by decide +kernel
theorem tyX5_ok : ∀ k, k < 4 → parseFieldDescriptor (TX5 k).2.2.1 = some (tyX5 k) := by decide +kernel
abbrev cX5_init : ByteArray := prog_7_method_1_code
def yX5_init : MethodName := ⟨RX5, "<init>", "()V"⟩
abbrev cX5_has : ByteArray := prog_7_method_2_code
def yX5_has : MethodName := ⟨RX5, "has", "(I)Z"⟩
abbrev cX5_clear : ByteArray := prog_7_method_3_code
def yX5_clear : MethodName := ⟨RX5, "clear", "()V"⟩
abbrev cX5_addStrike : ByteArray := prog_7_method_4_code
def yX5_addStrike : MethodName := ⟨RX5, "addStrike", "(II)V"⟩
abbrev cX5_bellsBetween : ByteArray := prog_7_method_5_code
def yX5_bellsBetween : MethodName := ⟨RX5, "bellsBetween", "(II)I"⟩
abbrev cX5_copyFrom : ByteArray := prog_7_method_6_code
def yX5_copyFrom : MethodName := ⟨RX5, "copyFrom", "(LCarillonDesk$Score;)V"⟩
def RX6 : String := "CarillonDesk$Setting"
def TX6 : u_T := fun k => match k with
  | 0 => ("CarillonDesk$Setting", "who", "[I", true)
  | 1 => ("CarillonDesk$Setting", "gone", "[I", true)
  | 2 => ("CarillonDesk$Setting", "total", "I", false)
  | 3 => ("CarillonDesk$Setting", "leftOut", "I", false)
  | 4 => ("CarillonDesk$Setting", "music", "LCarillonDesk$Score;", true)
  | 5 => ("CarillonDesk$Setting", "rest", "[I", true)
  | 6 => ("CarillonDesk$Setting", "reach", "I", false)
  | _ => ("CarillonDesk$Setting", "price", "I", false)
def tyX6 : Nat → FieldType := fun k => match k with
  | 0 => .array .int
  | 1 => .array .int
  | 2 => .int
  | 3 => .int
  | 4 => .object "CarillonDesk$Score"
  | 5 => .array .int
  | 6 => .int
  | _ => .int
abbrev wsX60 : List Cond := u_ws RX6 TX6 8
theorem nmX6 : ∀ a, a < 8 → ∀ b, b < 8 → a ≠ b → (TX6 a).2.1 ≠ (TX6 b).2.1 := by decide +kernel
theorem tyX6_ok : ∀ k, k < 8 → parseFieldDescriptor (TX6 k).2.2.1 = some (tyX6 k) := by decide +kernel
abbrev cX6_init : ByteArray := prog_8_method_1_code
def yX6_init : MethodName := ⟨RX6, "<init>", "(LCarillonDesk$Score;)V"⟩
abbrev cX6_settle : ByteArray := prog_8_method_2_code
def yX6_settle : MethodName := ⟨RX6, "settle", "(II)V"⟩
abbrev cX6_spot : ByteArray := prog_8_method_3_code
def yX6_spot : MethodName := ⟨RX6, "spot", "(II)I"⟩
abbrev cX6_leastRest : ByteArray := prog_8_method_4_code
def yX6_leastRest : MethodName := ⟨RX6, "leastRest", "(II)I"⟩
abbrev cX6_costBy : ByteArray := prog_8_method_5_code
def yX6_costBy : MethodName := ⟨RX6, "costBy", "(IIII)I"⟩
abbrev cX6_moveTo : ByteArray := prog_8_method_6_code
def yX6_moveTo : MethodName := ⟨RX6, "moveTo", "(II)I"⟩
abbrev cX6_walk : ByteArray := prog_8_method_7_code
def yX6_walk : MethodName := ⟨RX6, "walk", "()V"⟩
def RX7 : String := "CarillonDesk$Tape"
def TX7 : u_T := fun k => match k with
  | 0 => ("CarillonDesk$Tape", "bytes", "[B", true)
  | _ => ("CarillonDesk$Tape", "size", "I", false)
def tyX7 : Nat → FieldType := fun k => match k with
  | 0 => .array .byte
  | _ => .int
abbrev wsX70 : List Cond := u_ws RX7 TX7 2
theorem nmX7 : ∀ a, a < 2 → ∀ b, b < 2 → a ≠ b → (TX7 a).2.1 ≠ (TX7 b).2.1 := by decide +kernel
theorem tyX7_ok : ∀ k, k < 2 → parseFieldDescriptor (TX7 k).2.2.1 = some (tyX7 k) := by decide +kernel
abbrev cX7_init : ByteArray := prog_9_method_1_code
def yX7_init : MethodName := ⟨RX7, "<init>", "()V"⟩
abbrev cX7_hasRoom : ByteArray := prog_9_method_2_code
def yX7_hasRoom : MethodName := ⟨RX7, "hasRoom", "()Z"⟩
abbrev cX7_addNumber : ByteArray := prog_9_method_3_code
def yX7_addNumber : MethodName := ⟨RX7, "addNumber", "(I)V"⟩
def RX8 : String := "CarillonDesk$Tones"
def TX8 : u_T := fun k => match k with
  | 0 => ("CarillonDesk$Tones", "tails", "[I", true)
  | 1 => ("CarillonDesk$Tones", "quarrelBits", "I", false)
  | _ => ("CarillonDesk$Tones", "lengths", "[I", true)
def tyX8 : Nat → FieldType := fun k => match k with
  | 0 => .array .int
  | 1 => .int
  | _ => .array .int
abbrev wsX80 : List Cond := u_ws RX8 TX8 3
theorem nmX8 : ∀ a, a < 3 → ∀ b, b < 3 → a ≠ b → (TX8 a).2.1 ≠ (TX8 b).2.1 := by decide +kernel
theorem tyX8_ok : ∀ k, k < 3 → parseFieldDescriptor (TX8 k).2.2.1 = some (tyX8 k) := by decide +kernel
abbrev cX8_init : ByteArray := prog_10_method_1_code
def yX8_init : MethodName := ⟨RX8, "<init>", "()V"⟩
abbrev cX8_soundLength : ByteArray := prog_10_method_2_code
def yX8_soundLength : MethodName := ⟨RX8, "soundLength", "(LCarillonDesk$Score;I)I"⟩
abbrev cX8_quarrelTicks : ByteArray := prog_10_method_3_code
def yX8_quarrelTicks : MethodName := ⟨RX8, "quarrelTicks", "(LCarillonDesk$Score;)I"⟩
abbrev cX8_canQuarrel : ByteArray := prog_10_method_4_code
def yX8_canQuarrel : MethodName := ⟨RX8, "canQuarrel", "(LCarillonDesk$Score;II)Z"⟩
abbrev cX8_ticksTogether : ByteArray := prog_10_method_5_code
def yX8_ticksTogether : MethodName := ⟨RX8, "ticksTogether", "(LCarillonDesk$Score;II)I"⟩
abbrev cX8_copyFrom : ByteArray := prog_10_method_6_code
def yX8_copyFrom : MethodName := ⟨RX8, "copyFrom", "(LCarillonDesk$Tones;)V"⟩
def RX9 : String := "CarillonDesk$Turns"
def TX9 : u_T := fun k => match k with
  | 0 => ("CarillonDesk$Turns", "best", "I", false)
  | 1 => ("CarillonDesk$Turns", "mostKept", "I", false)
  | _ => ("CarillonDesk$Turns", "kept", "[I", true)
def tyX9 : Nat → FieldType := fun k => match k with
  | 0 => .int
  | 1 => .int
  | _ => .array .int
abbrev wsX90 : List Cond := u_ws RX9 TX9 3
theorem nmX9 : ∀ a, a < 3 → ∀ b, b < 3 → a ≠ b → (TX9 a).2.1 ≠ (TX9 b).2.1 := by decide +kernel
theorem tyX9_ok : ∀ k, k < 3 → parseFieldDescriptor (TX9 k).2.2.1 = some (tyX9 k) := by decide +kernel
abbrev cX9_init : ByteArray := prog_11_method_1_code
def yX9_init : MethodName := ⟨RX9, "<init>", "()V"⟩
abbrev cX9_find : ByteArray := prog_11_method_2_code
def yX9_find : MethodName := ⟨RX9, "find", "(LCarillonDesk$Drum;LCarillonDesk$Score;)V"⟩
def RX10 : String := "CarillonDesk"
def TX10 : u_T := fun k => match k with
  | 0 => ("CarillonDesk", "tape", "LCarillonDesk$Tape;", true)
  | 1 => ("CarillonDesk", "reader", "LCarillonDesk$Reader;", true)
  | 2 => ("CarillonDesk", "now", "LCarillonDesk$Matter;", true)
  | 3 => ("CarillonDesk", "images", "[LCarillonDesk$Matter;", true)
  | 4 => ("CarillonDesk", "setting", "LCarillonDesk$Setting;", true)
  | 5 => ("CarillonDesk", "least", "LCarillonDesk$Need;", true)
  | 6 => ("CarillonDesk", "turns", "LCarillonDesk$Turns;", true)
  | _ => ("CarillonDesk", "settled", "Z", false)
def tyX10 : Nat → FieldType := fun k => match k with
  | 0 => .object "CarillonDesk$Tape"
  | 1 => .object "CarillonDesk$Reader"
  | 2 => .object "CarillonDesk$Matter"
  | 3 => .array (.object "CarillonDesk$Matter")
  | 4 => .object "CarillonDesk$Setting"
  | 5 => .object "CarillonDesk$Need"
  | 6 => .object "CarillonDesk$Turns"
  | _ => .boolean
abbrev wsX100 : List Cond := u_ws RX10 TX10 8
theorem nmX10 : ∀ a, a < 8 → ∀ b, b < 8 → a ≠ b → (TX10 a).2.1 ≠ (TX10 b).2.1 := by decide +kernel
theorem tyX10_ok : ∀ k, k < 8 → parseFieldDescriptor (TX10 k).2.2.1 = some (tyX10 k) := by decide +kernel
abbrev cX10_init : ByteArray := prog_1_method_1_code
def yX10_init : MethodName := ⟨RX10, "<init>", "()V"⟩
abbrev cX10_feed : ByteArray := prog_1_method_2_code
def yX10_feed : MethodName := ⟨RX10, "feed", "(IIIII)I"⟩
abbrev cX10_end : ByteArray := prog_1_method_3_code
def yX10_end : MethodName := ⟨RX10, "end", "(I)Z"⟩
abbrev cX10_score : ByteArray := prog_1_method_4_code
def yX10_score : MethodName := ⟨RX10, "score", "()I"⟩
abbrev cX10_fault : ByteArray := prog_1_method_5_code
def yX10_fault : MethodName := ⟨RX10, "fault", "(I)I"⟩
abbrev cX10_strike : ByteArray := prog_1_method_6_code
def yX10_strike : MethodName := ⟨RX10, "strike", "(II)I"⟩
abbrev cX10_count : ByteArray := prog_1_method_7_code
def yX10_count : MethodName := ⟨RX10, "count", "(I)I"⟩
abbrev cX10_fists : ByteArray := prog_1_method_8_code
def yX10_fists : MethodName := ⟨RX10, "fists", "(II)Z"⟩
abbrev cX10_cost : ByteArray := prog_1_method_9_code
def yX10_cost : MethodName := ⟨RX10, "cost", "()I"⟩
abbrev cX10_need : ByteArray := prog_1_method_10_code
def yX10_need : MethodName := ⟨RX10, "need", "()I"⟩
abbrev cX10_by : ByteArray := prog_1_method_11_code
def yX10_by : MethodName := ⟨RX10, "by", "(I)I"⟩
abbrev cX10_way : ByteArray := prog_1_method_12_code
def yX10_way : MethodName := ⟨RX10, "way", "(I)I"⟩
abbrev cX10_tail : ByteArray := prog_1_method_13_code
def yX10_tail : MethodName := ⟨RX10, "tail", "(II)I"⟩
abbrev cX10_quarrel : ByteArray := prog_1_method_14_code
def yX10_quarrel : MethodName := ⟨RX10, "quarrel", "(I)I"⟩
abbrev cX10_quarrels : ByteArray := prog_1_method_15_code
def yX10_quarrels : MethodName := ⟨RX10, "quarrels", "()I"⟩
abbrev cX10_sounds : ByteArray := prog_1_method_16_code
def yX10_sounds : MethodName := ⟨RX10, "sounds", "(I)I"⟩
abbrev cX10_drum : ByteArray := prog_1_method_17_code
def yX10_drum : MethodName := ⟨RX10, "drum", "(I)Z"⟩
abbrev cX10_change : ByteArray := prog_1_method_18_code
def yX10_change : MethodName := ⟨RX10, "change", "()I"⟩
abbrev cX10_turn : ByteArray := prog_1_method_19_code
def yX10_turn : MethodName := ⟨RX10, "turn", "()I"⟩
abbrev cX10_pin : ByteArray := prog_1_method_20_code
def yX10_pin : MethodName := ⟨RX10, "pin", "(II)I"⟩
abbrev cX10_pins : ByteArray := prog_1_method_21_code
def yX10_pins : MethodName := ⟨RX10, "pins", "()I"⟩
abbrev cX10_play : ByteArray := prog_1_method_22_code
def yX10_play : MethodName := ⟨RX10, "play", "(I)I"⟩
abbrev cX10_strikes : ByteArray := prog_1_method_23_code
def yX10_strikes : MethodName := ⟨RX10, "strikes", "(I)J"⟩
abbrev cX10_mend : ByteArray := prog_1_method_24_code
def yX10_mend : MethodName := ⟨RX10, "mend", "(I)J"⟩
abbrev cX10_worn : ByteArray := prog_1_method_25_code
def yX10_worn : MethodName := ⟨RX10, "worn", "(I)I"⟩
abbrev cX10_image : ByteArray := prog_1_method_26_code
def yX10_image : MethodName := ⟨RX10, "image", "(I)Z"⟩
abbrev cX10_back : ByteArray := prog_1_method_27_code
def yX10_back : MethodName := ⟨RX10, "back", "(I)Z"⟩
abbrev cX10_isBell : ByteArray := prog_1_method_28_code
def yX10_isBell : MethodName := ⟨RX10, "isBell", "(I)Z"⟩
abbrev cX10_theSetting : ByteArray := prog_1_method_29_code
def yX10_theSetting : MethodName := ⟨RX10, "theSetting", "()LCarillonDesk$Setting;"⟩
def RX11 : String := "CarillonDeskModel"
def TX11 : u_T := fun k => match k with
  | 0 => ("CarillonDeskModel", "d", "[I", true)
  | 1 => ("CarillonDeskModel", "struck", "[J", true)
  | 2 => ("CarillonDeskModel", "isKept", "[Z", true)
  | 3 => ("CarillonDeskModel", "tape", "[I", true)
  | 4 => ("CarillonDeskModel", "taped", "I", false)
  | 5 => ("CarillonDeskModel", "at", "I", false)
  | 6 => ("CarillonDeskModel", "size", "I", false)
  | 7 => ("CarillonDeskModel", "bad", "I", false)
  | 8 => ("CarillonDeskModel", "badPlace", "I", false)
  | 9 => ("CarillonDeskModel", "begun", "I", false)
  | 10 => ("CarillonDeskModel", "strikes", "I", false)
  | 11 => ("CarillonDeskModel", "tick", "I", false)
  | 12 => ("CarillonDeskModel", "newTick", "[I", true)
  | 13 => ("CarillonDeskModel", "newBell", "[I", true)
  | 14 => ("CarillonDeskModel", "lengthAt", "[I", true)
  | 15 => ("CarillonDeskModel", "latest", "I", false)
  | 16 => ("CarillonDeskModel", "open", "I", false)
  | 17 => ("CarillonDeskModel", "from", "[I", true)
  | 18 => ("CarillonDeskModel", "rounds", "[I", true)
  | 19 => ("CarillonDeskModel", "bells", "[I", true)
  | 20 => ("CarillonDeskModel", "least", "[I", true)
  | 21 => ("CarillonDeskModel", "choice", "[I", true)
  | _ => ("CarillonDeskModel", "went", "[I", true)
def tyX11 : Nat → FieldType := fun k => match k with
  | 0 => .array .int
  | 1 => .array .long
  | 2 => .array .boolean
  | 3 => .array .int
  | 4 => .int
  | 5 => .int
  | 6 => .int
  | 7 => .int
  | 8 => .int
  | 9 => .int
  | 10 => .int
  | 11 => .int
  | 12 => .array .int
  | 13 => .array .int
  | 14 => .array .int
  | 15 => .int
  | 16 => .int
  | 17 => .array .int
  | 18 => .array .int
  | 19 => .array .int
  | 20 => .array .int
  | 21 => .array .int
  | _ => .array .int
abbrev wsX110 : List Cond := u_ws RX11 TX11 23
theorem nmX11 : ∀ a, a < 23 → ∀ b, b < 23 → a ≠ b → (TX11 a).2.1 ≠ (TX11 b).2.1 := by decide +kernel
theorem tyX11_ok : ∀ k, k < 23 → parseFieldDescriptor (TX11 k).2.2.1 = some (tyX11 k) := by decide +kernel
abbrev cX11_init : ByteArray := prog_13_method_1_code
def yX11_init : MethodName := ⟨RX11, "<init>", "()V"⟩
abbrev cX11_image : ByteArray := prog_13_method_2_code
def yX11_image : MethodName := ⟨RX11, "image", "(I)Z"⟩
abbrev cX11_back : ByteArray := prog_13_method_3_code
def yX11_back : MethodName := ⟨RX11, "back", "(I)Z"⟩
abbrev cX11_feed : ByteArray := prog_13_method_4_code
def yX11_feed : MethodName := ⟨RX11, "feed", "(IIIII)I"⟩
abbrev cX11_end : ByteArray := prog_13_method_5_code
def yX11_end : MethodName := ⟨RX11, "end", "(I)Z"⟩
abbrev cX11_fail : ByteArray := prog_13_method_6_code
def yX11_fail : MethodName := ⟨RX11, "fail", "(II)V"⟩
abbrev cX11_next : ByteArray := prog_13_method_7_code
def yX11_next : MethodName := ⟨RX11, "next", "()I"⟩
abbrev cX11_sign : ByteArray := prog_13_method_8_code
def yX11_sign : MethodName := ⟨RX11, "sign", "(I)V"⟩
abbrev cX11_isDigit : ByteArray := prog_13_method_9_code
def yX11_isDigit : MethodName := ⟨RX11, "isDigit", "(I)Z"⟩
abbrev cX11_number : ByteArray := prog_13_method_10_code
def yX11_number : MethodName := ⟨RX11, "number", "(II)I"⟩
abbrev cX11_length : ByteArray := prog_13_method_11_code
def yX11_length : MethodName := ⟨RX11, "length", "(I)I"⟩
abbrev cX11_strikesHere : ByteArray := prog_13_method_12_code
def yX11_strikesHere : MethodName := ⟨RX11, "strikesHere", "(III)V"⟩
abbrev cX11_item : ByteArray := prog_13_method_13_code
def yX11_item : MethodName := ⟨RX11, "item", "()V"⟩
abbrev cX11_group : ByteArray := prog_13_method_14_code
def yX11_group : MethodName := ⟨RX11, "group", "()V"⟩
abbrev cX11_ends : ByteArray := prog_13_method_15_code
def yX11_ends : MethodName := ⟨RX11, "ends", "()V"⟩
abbrev cX11_score : ByteArray := prog_13_method_16_code
def yX11_score : MethodName := ⟨RX11, "score", "()I"⟩
abbrev cX11_fault : ByteArray := prog_13_method_17_code
def yX11_fault : MethodName := ⟨RX11, "fault", "(I)I"⟩
abbrev cX11_strike : ByteArray := prog_13_method_18_code
def yX11_strike : MethodName := ⟨RX11, "strike", "(II)I"⟩
abbrev cX11_place : ByteArray := prog_13_method_19_code
def yX11_place : MethodName := ⟨RX11, "place", "(III)I"⟩
abbrev cX11_moves : ByteArray := prog_13_method_20_code
def yX11_moves : MethodName := ⟨RX11, "moves", "(III)I"⟩
abbrev cX11_isCrossed : ByteArray := prog_13_method_21_code
def yX11_isCrossed : MethodName := ⟨RX11, "isCrossed", "(II)Z"⟩
abbrev cX11_costOf : ByteArray := prog_13_method_22_code
def yX11_costOf : MethodName := ⟨RX11, "costOf", "(IIIIII)I"⟩
abbrev cX11_behind : ByteArray := prog_13_method_23_code
def yX11_behind : MethodName := ⟨RX11, "behind", "(IIII)I"⟩
abbrev cX11_weighs : ByteArray := prog_13_method_24_code
def yX11_weighs : MethodName := ⟨RX11, "weighs", "(II)I"⟩
abbrev cX11_sets : ByteArray := prog_13_method_25_code
def yX11_sets : MethodName := ⟨RX11, "sets", "()I"⟩
abbrev cX11_fists : ByteArray := prog_13_method_26_code
def yX11_fists : MethodName := ⟨RX11, "fists", "(II)Z"⟩
abbrev cX11_cost : ByteArray := prog_13_method_27_code
def yX11_cost : MethodName := ⟨RX11, "cost", "()I"⟩
abbrev cX11_need : ByteArray := prog_13_method_28_code
def yX11_need : MethodName := ⟨RX11, "need", "()I"⟩
abbrev cX11_by : ByteArray := prog_13_method_29_code
def yX11_by : MethodName := ⟨RX11, "by", "(I)I"⟩
abbrev cX11_way : ByteArray := prog_13_method_30_code
def yX11_way : MethodName := ⟨RX11, "way", "(I)I"⟩
abbrev cX11_count : ByteArray := prog_13_method_31_code
def yX11_count : MethodName := ⟨RX11, "count", "(I)I"⟩
abbrev cX11_isBell : ByteArray := prog_13_method_32_code
def yX11_isBell : MethodName := ⟨RX11, "isBell", "(I)Z"⟩
abbrev cX11_tail : ByteArray := prog_13_method_33_code
def yX11_tail : MethodName := ⟨RX11, "tail", "(II)I"⟩
abbrev cX11_quarrel : ByteArray := prog_13_method_34_code
def yX11_quarrel : MethodName := ⟨RX11, "quarrel", "(I)I"⟩
abbrev cX11_sounds : ByteArray := prog_13_method_35_code
def yX11_sounds : MethodName := ⟨RX11, "sounds", "(I)I"⟩
abbrev cX11_quarrels : ByteArray := prog_13_method_36_code
def yX11_quarrels : MethodName := ⟨RX11, "quarrels", "()I"⟩
abbrev cX11_drum : ByteArray := prog_13_method_37_code
def yX11_drum : MethodName := ⟨RX11, "drum", "(I)Z"⟩
abbrev cX11_stepOf : ByteArray := prog_13_method_38_code
def yX11_stepOf : MethodName := ⟨RX11, "stepOf", "(II)I"⟩
abbrev cX11_change : ByteArray := prog_13_method_39_code
def yX11_change : MethodName := ⟨RX11, "change", "()I"⟩
abbrev cX11_turn : ByteArray := prog_13_method_40_code
def yX11_turn : MethodName := ⟨RX11, "turn", "()I"⟩
abbrev cX11_pin : ByteArray := prog_13_method_41_code
def yX11_pin : MethodName := ⟨RX11, "pin", "(II)I"⟩
abbrev cX11_pins : ByteArray := prog_13_method_42_code
def yX11_pins : MethodName := ⟨RX11, "pins", "()I"⟩
abbrev cX11_play : ByteArray := prog_13_method_43_code
def yX11_play : MethodName := ⟨RX11, "play", "(I)I"⟩
abbrev cX11_strikes : ByteArray := prog_13_method_44_code
def yX11_strikes : MethodName := ⟨RX11, "strikes", "(I)J"⟩
abbrev cX11_mend : ByteArray := prog_13_method_45_code
def yX11_mend : MethodName := ⟨RX11, "mend", "(I)J"⟩
abbrev cX11_worn : ByteArray := prog_13_method_46_code
def yX11_worn : MethodName := ⟨RX11, "worn", "(I)I"⟩
def RJ6 : String := "java/lang/Integer"
def TJ6 : u_T := fun k => match k with
  | _ => ("", "", "", false)
def tyJ6 : Nat → FieldType := fun k => match k with
  | _ => .int
abbrev wsJ60 : List Cond := u_ws RJ6 TJ6 0
theorem nmJ6 : ∀ a, a < 0 → ∀ b, b < 0 → a ≠ b → (TJ6 a).2.1 ≠ (TJ6 b).2.1 := by decide +kernel
theorem tyJ6_ok : ∀ k, k < 0 → parseFieldDescriptor (TJ6 k).2.2.1 = some (tyJ6 k) := by decide +kernel
abbrev cJ6_bitCount_0f7a4 : ByteArray := prog_14_method_49_code
def yJ6_bitCount_0f7a4 : MethodName := ⟨RJ6, "bitCount", "(I)I"⟩
def RJ9 : String := "java/lang/Math"
def TJ9 : u_T := fun k => match k with
  | _ => ("", "", "", false)
def tyJ9 : Nat → FieldType := fun k => match k with
  | _ => .int
abbrev wsJ90 : List Cond := u_ws RJ9 TJ9 0
theorem nmJ9 : ∀ a, a < 0 → ∀ b, b < 0 → a ≠ b → (TJ9 a).2.1 ≠ (TJ9 b).2.1 := by decide +kernel
theorem tyJ9_ok : ∀ k, k < 0 → parseFieldDescriptor (TJ9 k).2.2.1 = some (tyJ9 k) := by decide +kernel
abbrev cJ9_abs_0f7a4 : ByteArray := prog_15_method_59_code
def yJ9_abs_0f7a4 : MethodName := ⟨RJ9, "abs", "(I)I"⟩
abbrev cJ9_max_7cf53 : ByteArray := prog_15_method_65_code
def yJ9_max_7cf53 : MethodName := ⟨RJ9, "max", "(II)I"⟩
abbrev cJ9_min_7cf53 : ByteArray := prog_15_method_69_code
def yJ9_min_7cf53 : MethodName := ⟨RJ9, "min", "(II)I"⟩
def RJ10 : String := "java/lang/System"
def TJ10 : u_T := fun k => match k with
  | _ => ("", "", "", false)
def tyJ10 : Nat → FieldType := fun k => match k with
  | _ => .int
abbrev wsJ100 : List Cond := u_ws RJ10 TJ10 0
theorem nmJ10 : ∀ a, a < 0 → ∀ b, b < 0 → a ≠ b → (TJ10 a).2.1 ≠ (TJ10 b).2.1 := by decide +kernel
theorem tyJ10_ok : ∀ k, k < 0 → parseFieldDescriptor (TJ10 k).2.2.1 = some (tyJ10 k) := by decide +kernel
def RL : String := "CarillonDeskLaw"
abbrev cL_law : ByteArray := code
def yL_law : MethodName := ⟨RL, "law", "([I)Z"⟩
abbrev vwCl : List vw_C := [(RX0, TX0, 1), (RX1, TX1, 5), (RX2, TX2, 8), (RX3, TX3, 2), (RX4, TX4, 16), (RX5, TX5, 4), (RX6, TX6, 8), (RX7, TX7, 2), (RX8, TX8, 3), (RX9, TX9, 3), (RX10, TX10, 8), (RX11, TX11, 23)]
theorem inX0 : ∀ w ∈ wsX00, w ∈ lw_tbl := by decide +kernel
theorem inX1 : ∀ w ∈ wsX10, w ∈ lw_tbl := by decide +kernel
theorem inX2 : ∀ w ∈ wsX20, w ∈ lw_tbl := by decide +kernel
theorem inX3 : ∀ w ∈ wsX30, w ∈ lw_tbl := by decide +kernel
theorem inX4 : ∀ w ∈ wsX40, w ∈ lw_tbl := by decide +kernel
theorem inX5 : ∀ w ∈ wsX50, w ∈ lw_tbl := by decide +kernel
theorem inX6 : ∀ w ∈ wsX60, w ∈ lw_tbl := by decide +kernel
theorem inX7 : ∀ w ∈ wsX70, w ∈ lw_tbl := by decide +kernel
theorem inX8 : ∀ w ∈ wsX80, w ∈ lw_tbl := by decide +kernel
theorem inX9 : ∀ w ∈ wsX90, w ∈ lw_tbl := by decide +kernel
theorem inX10 : ∀ w ∈ wsX100, w ∈ lw_tbl := by decide +kernel
theorem inX11 : ∀ w ∈ wsX110, w ∈ lw_tbl := by decide +kernel
end
section
theorem dX0_init_0 : decode cX0_init 0 = .ok (.aload_n 0, 1) := by decide +kernel
theorem dX0_init_1 : decode cX0_init 1 = .ok (.invokespecial 3, 3) := by decide +kernel
theorem dX0_init_4 : decode cX0_init 4 = .ok (.aload_n 0, 1) := by decide +kernel
theorem dX0_init_5 : decode cX0_init 5 = .ok (.bipush 24, 2) := by decide +kernel
theorem dX0_init_7 : decode cX0_init 7 = .ok (.newarray .long, 2) := by decide +kernel
theorem dX0_init_9 : decode cX0_init 9 = .ok (.putfield 9, 3) := by decide +kernel
theorem dX0_init_12 : decode cX0_init 12 = .ok (.return_, 1) := by decide +kernel
theorem dX0_playByFists_0 : decode cX0_playByFists 0 = .ok (.iconst 0, 1) := by decide +kernel
theorem dX0_playByFists_1 : decode cX0_playByFists 1 = .ok (.istore_n 3, 1) := by decide +kernel
theorem dX0_playByFists_2 : decode cX0_playByFists 2 = .ok (.iconst 0, 1) := by decide +kernel
theorem dX0_playByFists_3 : decode cX0_playByFists 3 = .ok (.istore 4, 2) := by decide +kernel
theorem dX0_playByFists_5 : decode cX0_playByFists 5 = .ok (.iload 4, 2) := by decide +kernel
theorem dX0_playByFists_7 : decode cX0_playByFists 7 = .ok (.aload_n 1, 1) := by decide +kernel
theorem dX0_playByFists_8 : decode cX0_playByFists 8 = .ok (.getfield 15, 3) := by decide +kernel
theorem dX0_playByFists_11 : decode cX0_playByFists 11 = .ok (.if_icmp .ge 39, 3) := by decide +kernel
theorem dX0_playByFists_14 : decode cX0_playByFists 14 = .ok (.aload_n 2, 1) := by decide +kernel
theorem dX0_playByFists_15 : decode cX0_playByFists 15 = .ok (.getfield 21, 3) := by decide +kernel
theorem dX0_playByFists_18 : decode cX0_playByFists 18 = .ok (.iload 4, 2) := by decide +kernel
theorem dX0_playByFists_20 : decode cX0_playByFists 20 = .ok (.iaload, 1) := by decide +kernel
theorem dX0_playByFists_21 : decode cX0_playByFists 21 = .ok (.iconst 2, 1) := by decide +kernel
theorem dX0_playByFists_22 : decode cX0_playByFists 22 = .ok (.if_icmp .eq 22, 3) := by decide +kernel
theorem dX0_playByFists_25 : decode cX0_playByFists 25 = .ok (.aload_n 0, 1) := by decide +kernel
theorem dX0_playByFists_26 : decode cX0_playByFists 26 = .ok (.getfield 9, 3) := by decide +kernel
theorem dX0_playByFists_29 : decode cX0_playByFists 29 = .ok (.aload_n 1, 1) := by decide +kernel
theorem dX0_playByFists_30 : decode cX0_playByFists 30 = .ok (.getfield 27, 3) := by decide +kernel
theorem dX0_playByFists_33 : decode cX0_playByFists 33 = .ok (.iload 4, 2) := by decide +kernel
theorem dX0_playByFists_35 : decode cX0_playByFists 35 = .ok (.iaload, 1) := by decide +kernel
theorem dX0_playByFists_36 : decode cX0_playByFists 36 = .ok (.dup2, 1) := by decide +kernel
theorem dX0_playByFists_37 : decode cX0_playByFists 37 = .ok (.laload, 1) := by decide +kernel
theorem dX0_playByFists_38 : decode cX0_playByFists 38 = .ok (.lconst 1, 1) := by decide +kernel
theorem dX0_playByFists_39 : decode cX0_playByFists 39 = .ok (.ladd, 1) := by decide +kernel
theorem dX0_playByFists_40 : decode cX0_playByFists 40 = .ok (.lastore, 1) := by decide +kernel
theorem dX0_playByFists_41 : decode cX0_playByFists 41 = .ok (.iinc 3 1, 3) := by decide +kernel
theorem dX0_playByFists_44 : decode cX0_playByFists 44 = .ok (.iinc 4 1, 3) := by decide +kernel
theorem dX0_playByFists_47 : decode cX0_playByFists 47 = .ok (.goto (-42), 3) := by decide +kernel
theorem dX0_playByFists_50 : decode cX0_playByFists 50 = .ok (.iload_n 3, 1) := by decide +kernel
theorem dX0_playByFists_51 : decode cX0_playByFists 51 = .ok (.ireturn, 1) := by decide +kernel
theorem dX0_playByDrum_0 : decode cX0_playByDrum 0 = .ok (.iconst 0, 1) := by decide +kernel
theorem dX0_playByDrum_1 : decode cX0_playByDrum 1 = .ok (.istore_n 2, 1) := by decide +kernel
theorem dX0_playByDrum_2 : decode cX0_playByDrum 2 = .ok (.iload_n 2, 1) := by decide +kernel
theorem dX0_playByDrum_3 : decode cX0_playByDrum 3 = .ok (.aload_n 1, 1) := by decide +kernel
theorem dX0_playByDrum_4 : decode cX0_playByDrum 4 = .ok (.getfield 30, 3) := by decide +kernel
theorem dX0_playByDrum_7 : decode cX0_playByDrum 7 = .ok (.if_icmp .ge 24, 3) := by decide +kernel
theorem dX0_playByDrum_10 : decode cX0_playByDrum 10 = .ok (.aload_n 0, 1) := by decide +kernel
theorem dX0_playByDrum_11 : decode cX0_playByDrum 11 = .ok (.getfield 9, 3) := by decide +kernel
theorem dX0_playByDrum_14 : decode cX0_playByDrum 14 = .ok (.aload_n 1, 1) := by decide +kernel
theorem dX0_playByDrum_15 : decode cX0_playByDrum 15 = .ok (.getfield 33, 3) := by decide +kernel
theorem dX0_playByDrum_18 : decode cX0_playByDrum 18 = .ok (.iload_n 2, 1) := by decide +kernel
theorem dX0_playByDrum_19 : decode cX0_playByDrum 19 = .ok (.iaload, 1) := by decide +kernel
theorem dX0_playByDrum_20 : decode cX0_playByDrum 20 = .ok (.dup2, 1) := by decide +kernel
theorem dX0_playByDrum_21 : decode cX0_playByDrum 21 = .ok (.laload, 1) := by decide +kernel
theorem dX0_playByDrum_22 : decode cX0_playByDrum 22 = .ok (.lconst 1, 1) := by decide +kernel
theorem dX0_playByDrum_23 : decode cX0_playByDrum 23 = .ok (.ladd, 1) := by decide +kernel
theorem dX0_playByDrum_24 : decode cX0_playByDrum 24 = .ok (.lastore, 1) := by decide +kernel
theorem dX0_playByDrum_25 : decode cX0_playByDrum 25 = .ok (.iinc 2 1, 3) := by decide +kernel
theorem dX0_playByDrum_28 : decode cX0_playByDrum 28 = .ok (.goto (-26), 3) := by decide +kernel
theorem dX0_playByDrum_31 : decode cX0_playByDrum 31 = .ok (.aload_n 1, 1) := by decide +kernel
theorem dX0_playByDrum_32 : decode cX0_playByDrum 32 = .ok (.getfield 30, 3) := by decide +kernel
theorem dX0_playByDrum_35 : decode cX0_playByDrum 35 = .ok (.ireturn, 1) := by decide +kernel
theorem dX0_wornAt_0 : decode cX0_wornAt 0 = .ok (.iconst 0, 1) := by decide +kernel
theorem dX0_wornAt_1 : decode cX0_wornAt 1 = .ok (.istore_n 2, 1) := by decide +kernel
theorem dX0_wornAt_2 : decode cX0_wornAt 2 = .ok (.iconst 0, 1) := by decide +kernel
theorem dX0_wornAt_3 : decode cX0_wornAt 3 = .ok (.istore_n 3, 1) := by decide +kernel
theorem dX0_wornAt_4 : decode cX0_wornAt 4 = .ok (.iload_n 3, 1) := by decide +kernel
theorem dX0_wornAt_5 : decode cX0_wornAt 5 = .ok (.bipush 24, 2) := by decide +kernel
theorem dX0_wornAt_7 : decode cX0_wornAt 7 = .ok (.if_icmp .ge 24, 3) := by decide +kernel
theorem dX0_wornAt_10 : decode cX0_wornAt 10 = .ok (.aload_n 0, 1) := by decide +kernel
theorem dX0_wornAt_11 : decode cX0_wornAt 11 = .ok (.getfield 9, 3) := by decide +kernel
theorem dX0_wornAt_14 : decode cX0_wornAt 14 = .ok (.iload_n 3, 1) := by decide +kernel
theorem dX0_wornAt_15 : decode cX0_wornAt 15 = .ok (.laload, 1) := by decide +kernel
theorem dX0_wornAt_16 : decode cX0_wornAt 16 = .ok (.iload_n 1, 1) := by decide +kernel
theorem dX0_wornAt_17 : decode cX0_wornAt 17 = .ok (.i2l, 1) := by decide +kernel
theorem dX0_wornAt_18 : decode cX0_wornAt 18 = .ok (.lcmp, 1) := by decide +kernel
theorem dX0_wornAt_19 : decode cX0_wornAt 19 = .ok (.ifCond .lt 6, 3) := by decide +kernel
theorem dX0_wornAt_22 : decode cX0_wornAt 22 = .ok (.iinc 2 1, 3) := by decide +kernel
theorem dX0_wornAt_25 : decode cX0_wornAt 25 = .ok (.iinc 3 1, 3) := by decide +kernel
theorem dX0_wornAt_28 : decode cX0_wornAt 28 = .ok (.goto (-24), 3) := by decide +kernel
theorem dX0_wornAt_31 : decode cX0_wornAt 31 = .ok (.iload_n 2, 1) := by decide +kernel
theorem dX0_wornAt_32 : decode cX0_wornAt 32 = .ok (.ireturn, 1) := by decide +kernel
theorem dX0_copyFrom_0 : decode cX0_copyFrom 0 = .ok (.aload_n 1, 1) := by decide +kernel
theorem dX0_copyFrom_1 : decode cX0_copyFrom 1 = .ok (.getfield 9, 3) := by decide +kernel
theorem dX0_copyFrom_4 : decode cX0_copyFrom 4 = .ok (.iconst 0, 1) := by decide +kernel
theorem dX0_copyFrom_5 : decode cX0_copyFrom 5 = .ok (.aload_n 0, 1) := by decide +kernel
theorem dX0_copyFrom_6 : decode cX0_copyFrom 6 = .ok (.getfield 9, 3) := by decide +kernel
theorem dX0_copyFrom_9 : decode cX0_copyFrom 9 = .ok (.iconst 0, 1) := by decide +kernel
theorem dX0_copyFrom_10 : decode cX0_copyFrom 10 = .ok (.bipush 24, 2) := by decide +kernel
theorem dX0_copyFrom_12 : decode cX0_copyFrom 12 = .ok (.invokestatic 36, 3) := by decide +kernel
theorem dX0_copyFrom_15 : decode cX0_copyFrom 15 = .ok (.return_, 1) := by decide +kernel
theorem dX1_init_0 : decode cX1_init 0 = .ok (.aload_n 0, 1) := by decide +kernel
theorem dX1_init_1 : decode cX1_init 1 = .ok (.invokespecial 3, 3) := by decide +kernel
theorem dX1_init_4 : decode cX1_init 4 = .ok (.aload_n 0, 1) := by decide +kernel
theorem dX1_init_5 : decode cX1_init 5 = .ok (.bipush 100, 2) := by decide +kernel
theorem dX1_init_7 : decode cX1_init 7 = .ok (.newarray .int, 2) := by decide +kernel
theorem dX1_init_9 : decode cX1_init 9 = .ok (.putfield 9, 3) := by decide +kernel
theorem dX1_init_12 : decode cX1_init 12 = .ok (.aload_n 0, 1) := by decide +kernel
theorem dX1_init_13 : decode cX1_init 13 = .ok (.bipush 100, 2) := by decide +kernel
theorem dX1_init_15 : decode cX1_init 15 = .ok (.newarray .int, 2) := by decide +kernel
theorem dX1_init_17 : decode cX1_init 17 = .ok (.putfield 15, 3) := by decide +kernel
theorem dX1_init_20 : decode cX1_init 20 = .ok (.aload_n 0, 1) := by decide +kernel
theorem dX1_init_21 : decode cX1_init 21 = .ok (.iconst 0, 1) := by decide +kernel
theorem dX1_init_22 : decode cX1_init 22 = .ok (.putfield 18, 3) := by decide +kernel
theorem dX1_init_25 : decode cX1_init 25 = .ok (.aload_n 0, 1) := by decide +kernel
theorem dX1_init_26 : decode cX1_init 26 = .ok (.bipush 64, 2) := by decide +kernel
theorem dX1_init_28 : decode cX1_init 28 = .ok (.putfield 22, 3) := by decide +kernel
theorem dX1_init_31 : decode cX1_init 31 = .ok (.aload_n 0, 1) := by decide +kernel
theorem dX1_init_32 : decode cX1_init 32 = .ok (.iconst (-1), 1) := by decide +kernel
theorem dX1_init_33 : decode cX1_init 33 = .ok (.putfield 25, 3) := by decide +kernel
theorem dX1_init_36 : decode cX1_init 36 = .ok (.return_, 1) := by decide +kernel
theorem dX1_renew_0 : decode cX1_renew 0 = .ok (.aload_n 0, 1) := by decide +kernel
theorem dX1_renew_1 : decode cX1_renew 1 = .ok (.iload_n 1, 1) := by decide +kernel
theorem dX1_renew_2 : decode cX1_renew 2 = .ok (.putfield 22, 3) := by decide +kernel
theorem dX1_renew_5 : decode cX1_renew 5 = .ok (.aload_n 0, 1) := by decide +kernel
theorem dX1_renew_6 : decode cX1_renew 6 = .ok (.iconst 0, 1) := by decide +kernel
theorem dX1_renew_7 : decode cX1_renew 7 = .ok (.putfield 18, 3) := by decide +kernel
theorem dX1_renew_10 : decode cX1_renew 10 = .ok (.aload_n 0, 1) := by decide +kernel
theorem dX1_renew_11 : decode cX1_renew 11 = .ok (.iconst (-1), 1) := by decide +kernel
theorem dX1_renew_12 : decode cX1_renew 12 = .ok (.putfield 25, 3) := by decide +kernel
theorem dX1_renew_15 : decode cX1_renew 15 = .ok (.return_, 1) := by decide +kernel
theorem dX1_hasPin_0 : decode cX1_hasPin 0 = .ok (.iconst 0, 1) := by decide +kernel
theorem dX1_hasPin_1 : decode cX1_hasPin 1 = .ok (.istore_n 3, 1) := by decide +kernel
theorem dX1_hasPin_2 : decode cX1_hasPin 2 = .ok (.iload_n 3, 1) := by decide +kernel
theorem dX1_hasPin_3 : decode cX1_hasPin 3 = .ok (.aload_n 0, 1) := by decide +kernel
theorem dX1_hasPin_4 : decode cX1_hasPin 4 = .ok (.getfield 18, 3) := by decide +kernel
theorem dX1_hasPin_7 : decode cX1_hasPin 7 = .ok (.if_icmp .ge 31, 3) := by decide +kernel
theorem dX1_hasPin_10 : decode cX1_hasPin 10 = .ok (.aload_n 0, 1) := by decide +kernel
theorem dX1_hasPin_11 : decode cX1_hasPin 11 = .ok (.getfield 9, 3) := by decide +kernel
theorem dX1_hasPin_14 : decode cX1_hasPin 14 = .ok (.iload_n 3, 1) := by decide +kernel
theorem dX1_hasPin_15 : decode cX1_hasPin 15 = .ok (.iaload, 1) := by decide +kernel
theorem dX1_hasPin_16 : decode cX1_hasPin 16 = .ok (.iload_n 1, 1) := by decide +kernel
theorem dX1_hasPin_17 : decode cX1_hasPin 17 = .ok (.if_icmp .ne 15, 3) := by decide +kernel
theorem dX1_hasPin_20 : decode cX1_hasPin 20 = .ok (.aload_n 0, 1) := by decide +kernel
theorem dX1_hasPin_21 : decode cX1_hasPin 21 = .ok (.getfield 15, 3) := by decide +kernel
theorem dX1_hasPin_24 : decode cX1_hasPin 24 = .ok (.iload_n 3, 1) := by decide +kernel
theorem dX1_hasPin_25 : decode cX1_hasPin 25 = .ok (.iaload, 1) := by decide +kernel
theorem dX1_hasPin_26 : decode cX1_hasPin 26 = .ok (.iload_n 2, 1) := by decide +kernel
theorem dX1_hasPin_27 : decode cX1_hasPin 27 = .ok (.if_icmp .ne 5, 3) := by decide +kernel
theorem dX1_hasPin_30 : decode cX1_hasPin 30 = .ok (.iconst 1, 1) := by decide +kernel
theorem dX1_hasPin_31 : decode cX1_hasPin 31 = .ok (.ireturn, 1) := by decide +kernel
theorem dX1_hasPin_32 : decode cX1_hasPin 32 = .ok (.iinc 3 1, 3) := by decide +kernel
theorem dX1_hasPin_35 : decode cX1_hasPin 35 = .ok (.goto (-33), 3) := by decide +kernel
theorem dX1_hasPin_38 : decode cX1_hasPin 38 = .ok (.iconst 0, 1) := by decide +kernel
theorem dX1_hasPin_39 : decode cX1_hasPin 39 = .ok (.ireturn, 1) := by decide +kernel
theorem dX1_fits_0 : decode cX1_fits 0 = .ok (.aload_n 1, 1) := by decide +kernel
theorem dX1_fits_1 : decode cX1_fits 1 = .ok (.getfield 28, 3) := by decide +kernel
theorem dX1_fits_4 : decode cX1_fits 4 = .ok (.ifCond .eq 21, 3) := by decide +kernel
theorem dX1_fits_7 : decode cX1_fits 7 = .ok (.aload_n 1, 1) := by decide +kernel
theorem dX1_fits_8 : decode cX1_fits 8 = .ok (.getfield 31, 3) := by decide +kernel
theorem dX1_fits_11 : decode cX1_fits 11 = .ok (.aload_n 1, 1) := by decide +kernel
theorem dX1_fits_12 : decode cX1_fits 12 = .ok (.getfield 28, 3) := by decide +kernel
theorem dX1_fits_15 : decode cX1_fits 15 = .ok (.iconst 1, 1) := by decide +kernel
theorem dX1_fits_16 : decode cX1_fits 16 = .ok (.isub, 1) := by decide +kernel
theorem dX1_fits_17 : decode cX1_fits 17 = .ok (.iaload, 1) := by decide +kernel
theorem dX1_fits_18 : decode cX1_fits 18 = .ok (.aload_n 0, 1) := by decide +kernel
theorem dX1_fits_19 : decode cX1_fits 19 = .ok (.getfield 22, 3) := by decide +kernel
theorem dX1_fits_22 : decode cX1_fits 22 = .ok (.if_icmp .ge 7, 3) := by decide +kernel
theorem dX1_fits_25 : decode cX1_fits 25 = .ok (.iconst 1, 1) := by decide +kernel
theorem dX1_fits_26 : decode cX1_fits 26 = .ok (.goto 4, 3) := by decide +kernel
theorem dX1_fits_29 : decode cX1_fits 29 = .ok (.iconst 0, 1) := by decide +kernel
theorem dX1_fits_30 : decode cX1_fits 30 = .ok (.ireturn, 1) := by decide +kernel
theorem dX1_pinDown_0 : decode cX1_pinDown 0 = .ok (.iconst 0, 1) := by decide +kernel
theorem dX1_pinDown_1 : decode cX1_pinDown 1 = .ok (.istore_n 3, 1) := by decide +kernel
theorem dX1_pinDown_2 : decode cX1_pinDown 2 = .ok (.iload_n 3, 1) := by decide +kernel
theorem dX1_pinDown_3 : decode cX1_pinDown 3 = .ok (.aload_n 1, 1) := by decide +kernel
theorem dX1_pinDown_4 : decode cX1_pinDown 4 = .ok (.getfield 28, 3) := by decide +kernel
theorem dX1_pinDown_7 : decode cX1_pinDown 7 = .ok (.if_icmp .ge 58, 3) := by decide +kernel
theorem dX1_pinDown_10 : decode cX1_pinDown 10 = .ok (.aload_n 1, 1) := by decide +kernel
theorem dX1_pinDown_11 : decode cX1_pinDown 11 = .ok (.getfield 31, 3) := by decide +kernel
theorem dX1_pinDown_14 : decode cX1_pinDown 14 = .ok (.iload_n 3, 1) := by decide +kernel
theorem dX1_pinDown_15 : decode cX1_pinDown 15 = .ok (.iaload, 1) := by decide +kernel
theorem dX1_pinDown_16 : decode cX1_pinDown 16 = .ok (.iload_n 2, 1) := by decide +kernel
theorem dX1_pinDown_17 : decode cX1_pinDown 17 = .ok (.iadd, 1) := by decide +kernel
theorem dX1_pinDown_18 : decode cX1_pinDown 18 = .ok (.istore 4, 2) := by decide +kernel
theorem dX1_pinDown_20 : decode cX1_pinDown 20 = .ok (.aload_n 0, 1) := by decide +kernel
theorem dX1_pinDown_21 : decode cX1_pinDown 21 = .ok (.getfield 9, 3) := by decide +kernel
theorem dX1_pinDown_24 : decode cX1_pinDown 24 = .ok (.iload_n 3, 1) := by decide +kernel
theorem dX1_pinDown_25 : decode cX1_pinDown 25 = .ok (.iload 4, 2) := by decide +kernel
theorem dX1_pinDown_27 : decode cX1_pinDown 27 = .ok (.aload_n 0, 1) := by decide +kernel
theorem dX1_pinDown_28 : decode cX1_pinDown 28 = .ok (.getfield 22, 3) := by decide +kernel
theorem dX1_pinDown_31 : decode cX1_pinDown 31 = .ok (.if_icmp .ge 8, 3) := by decide +kernel
theorem dX1_pinDown_34 : decode cX1_pinDown 34 = .ok (.iload 4, 2) := by decide +kernel
theorem dX1_pinDown_36 : decode cX1_pinDown 36 = .ok (.goto 10, 3) := by decide +kernel
theorem dX1_pinDown_39 : decode cX1_pinDown 39 = .ok (.iload 4, 2) := by decide +kernel
theorem dX1_pinDown_41 : decode cX1_pinDown 41 = .ok (.aload_n 0, 1) := by decide +kernel
theorem dX1_pinDown_42 : decode cX1_pinDown 42 = .ok (.getfield 22, 3) := by decide +kernel
theorem dX1_pinDown_45 : decode cX1_pinDown 45 = .ok (.isub, 1) := by decide +kernel
theorem dX1_pinDown_46 : decode cX1_pinDown 46 = .ok (.iastore, 1) := by decide +kernel
theorem dX1_pinDown_47 : decode cX1_pinDown 47 = .ok (.aload_n 0, 1) := by decide +kernel
theorem dX1_pinDown_48 : decode cX1_pinDown 48 = .ok (.getfield 15, 3) := by decide +kernel
theorem dX1_pinDown_51 : decode cX1_pinDown 51 = .ok (.iload_n 3, 1) := by decide +kernel
theorem dX1_pinDown_52 : decode cX1_pinDown 52 = .ok (.aload_n 1, 1) := by decide +kernel
theorem dX1_pinDown_53 : decode cX1_pinDown 53 = .ok (.getfield 34, 3) := by decide +kernel
theorem dX1_pinDown_56 : decode cX1_pinDown 56 = .ok (.iload_n 3, 1) := by decide +kernel
theorem dX1_pinDown_57 : decode cX1_pinDown 57 = .ok (.iaload, 1) := by decide +kernel
theorem dX1_pinDown_58 : decode cX1_pinDown 58 = .ok (.iastore, 1) := by decide +kernel
theorem dX1_pinDown_59 : decode cX1_pinDown 59 = .ok (.iinc 3 1, 3) := by decide +kernel
theorem dX1_pinDown_62 : decode cX1_pinDown 62 = .ok (.goto (-60), 3) := by decide +kernel
theorem dX1_pinDown_65 : decode cX1_pinDown 65 = .ok (.aload_n 0, 1) := by decide +kernel
theorem dX1_pinDown_66 : decode cX1_pinDown 66 = .ok (.aload_n 1, 1) := by decide +kernel
theorem dX1_pinDown_67 : decode cX1_pinDown 67 = .ok (.getfield 28, 3) := by decide +kernel
theorem dX1_pinDown_70 : decode cX1_pinDown 70 = .ok (.putfield 18, 3) := by decide +kernel
theorem dX1_pinDown_73 : decode cX1_pinDown 73 = .ok (.aload_n 0, 1) := by decide +kernel
theorem dX1_pinDown_74 : decode cX1_pinDown 74 = .ok (.iload_n 2, 1) := by decide +kernel
theorem dX1_pinDown_75 : decode cX1_pinDown 75 = .ok (.putfield 25, 3) := by decide +kernel
theorem dX1_pinDown_78 : decode cX1_pinDown 78 = .ok (.return_, 1) := by decide +kernel
theorem dX1_copyFrom_0 : decode cX1_copyFrom 0 = .ok (.aload_n 1, 1) := by decide +kernel
theorem dX1_copyFrom_1 : decode cX1_copyFrom 1 = .ok (.getfield 9, 3) := by decide +kernel
theorem dX1_copyFrom_4 : decode cX1_copyFrom 4 = .ok (.iconst 0, 1) := by decide +kernel
theorem dX1_copyFrom_5 : decode cX1_copyFrom 5 = .ok (.aload_n 0, 1) := by decide +kernel
theorem dX1_copyFrom_6 : decode cX1_copyFrom 6 = .ok (.getfield 9, 3) := by decide +kernel
theorem dX1_copyFrom_9 : decode cX1_copyFrom 9 = .ok (.iconst 0, 1) := by decide +kernel
theorem dX1_copyFrom_10 : decode cX1_copyFrom 10 = .ok (.bipush 100, 2) := by decide +kernel
theorem dX1_copyFrom_12 : decode cX1_copyFrom 12 = .ok (.invokestatic 37, 3) := by decide +kernel
theorem dX1_copyFrom_15 : decode cX1_copyFrom 15 = .ok (.aload_n 1, 1) := by decide +kernel
theorem dX1_copyFrom_16 : decode cX1_copyFrom 16 = .ok (.getfield 15, 3) := by decide +kernel
theorem dX1_copyFrom_19 : decode cX1_copyFrom 19 = .ok (.iconst 0, 1) := by decide +kernel
theorem dX1_copyFrom_20 : decode cX1_copyFrom 20 = .ok (.aload_n 0, 1) := by decide +kernel
theorem dX1_copyFrom_21 : decode cX1_copyFrom 21 = .ok (.getfield 15, 3) := by decide +kernel
theorem dX1_copyFrom_24 : decode cX1_copyFrom 24 = .ok (.iconst 0, 1) := by decide +kernel
theorem dX1_copyFrom_25 : decode cX1_copyFrom 25 = .ok (.bipush 100, 2) := by decide +kernel
theorem dX1_copyFrom_27 : decode cX1_copyFrom 27 = .ok (.invokestatic 37, 3) := by decide +kernel
theorem dX1_copyFrom_30 : decode cX1_copyFrom 30 = .ok (.aload_n 0, 1) := by decide +kernel
theorem dX1_copyFrom_31 : decode cX1_copyFrom 31 = .ok (.aload_n 1, 1) := by decide +kernel
theorem dX1_copyFrom_32 : decode cX1_copyFrom 32 = .ok (.getfield 18, 3) := by decide +kernel
theorem dX1_copyFrom_35 : decode cX1_copyFrom 35 = .ok (.putfield 18, 3) := by decide +kernel
theorem dX1_copyFrom_38 : decode cX1_copyFrom 38 = .ok (.aload_n 0, 1) := by decide +kernel
theorem dX1_copyFrom_39 : decode cX1_copyFrom 39 = .ok (.aload_n 1, 1) := by decide +kernel
theorem dX1_copyFrom_40 : decode cX1_copyFrom 40 = .ok (.getfield 22, 3) := by decide +kernel
theorem dX1_copyFrom_43 : decode cX1_copyFrom 43 = .ok (.putfield 22, 3) := by decide +kernel
theorem dX1_copyFrom_46 : decode cX1_copyFrom 46 = .ok (.aload_n 0, 1) := by decide +kernel
theorem dX1_copyFrom_47 : decode cX1_copyFrom 47 = .ok (.aload_n 1, 1) := by decide +kernel
theorem dX1_copyFrom_48 : decode cX1_copyFrom 48 = .ok (.getfield 25, 3) := by decide +kernel
theorem dX1_copyFrom_51 : decode cX1_copyFrom 51 = .ok (.putfield 25, 3) := by decide +kernel
theorem dX1_copyFrom_54 : decode cX1_copyFrom 54 = .ok (.return_, 1) := by decide +kernel
theorem dX2_init_0 : decode cX2_init 0 = .ok (.aload_n 0, 1) := by decide +kernel
theorem dX2_init_1 : decode cX2_init 1 = .ok (.invokespecial 3, 3) := by decide +kernel
theorem dX2_init_4 : decode cX2_init 4 = .ok (.aload_n 0, 1) := by decide +kernel
theorem dX2_init_5 : decode cX2_init 5 = .ok (.new 9, 3) := by decide +kernel
theorem dX2_init_8 : decode cX2_init 8 = .ok (.dup, 1) := by decide +kernel
theorem dX2_init_9 : decode cX2_init 9 = .ok (.invokespecial 11, 3) := by decide +kernel
theorem dX2_init_12 : decode cX2_init 12 = .ok (.putfield 12, 3) := by decide +kernel
theorem dX2_init_15 : decode cX2_init 15 = .ok (.aload_n 0, 1) := by decide +kernel
theorem dX2_init_16 : decode cX2_init 16 = .ok (.new 18, 3) := by decide +kernel
theorem dX2_init_19 : decode cX2_init 19 = .ok (.dup, 1) := by decide +kernel
theorem dX2_init_20 : decode cX2_init 20 = .ok (.invokespecial 20, 3) := by decide +kernel
theorem dX2_init_23 : decode cX2_init 23 = .ok (.putfield 21, 3) := by decide +kernel
theorem dX2_init_26 : decode cX2_init 26 = .ok (.aload_n 0, 1) := by decide +kernel
theorem dX2_init_27 : decode cX2_init 27 = .ok (.new 25, 3) := by decide +kernel
theorem dX2_init_30 : decode cX2_init 30 = .ok (.dup, 1) := by decide +kernel
theorem dX2_init_31 : decode cX2_init 31 = .ok (.invokespecial 27, 3) := by decide +kernel
theorem dX2_init_34 : decode cX2_init 34 = .ok (.putfield 28, 3) := by decide +kernel
theorem dX2_init_37 : decode cX2_init 37 = .ok (.aload_n 0, 1) := by decide +kernel
theorem dX2_init_38 : decode cX2_init 38 = .ok (.new 32, 3) := by decide +kernel
theorem dX2_init_41 : decode cX2_init 41 = .ok (.dup, 1) := by decide +kernel
theorem dX2_init_42 : decode cX2_init 42 = .ok (.invokespecial 34, 3) := by decide +kernel
theorem dX2_init_45 : decode cX2_init 45 = .ok (.putfield 35, 3) := by decide +kernel
theorem dX2_init_48 : decode cX2_init 48 = .ok (.aload_n 0, 1) := by decide +kernel
theorem dX2_init_49 : decode cX2_init 49 = .ok (.iconst 0, 1) := by decide +kernel
theorem dX2_init_50 : decode cX2_init 50 = .ok (.putfield 39, 3) := by decide +kernel
theorem dX2_init_53 : decode cX2_init 53 = .ok (.aload_n 0, 1) := by decide +kernel
theorem dX2_init_54 : decode cX2_init 54 = .ok (.iconst (-1), 1) := by decide +kernel
theorem dX2_init_55 : decode cX2_init 55 = .ok (.putfield 43, 3) := by decide +kernel
theorem dX2_init_58 : decode cX2_init 58 = .ok (.aload_n 0, 1) := by decide +kernel
theorem dX2_init_59 : decode cX2_init 59 = .ok (.iconst 4, 1) := by decide +kernel
theorem dX2_init_60 : decode cX2_init 60 = .ok (.putfield 46, 3) := by decide +kernel
theorem dX2_init_63 : decode cX2_init 63 = .ok (.aload_n 0, 1) := by decide +kernel
theorem dX2_init_64 : decode cX2_init 64 = .ok (.bipush 100, 2) := by decide +kernel
theorem dX2_init_66 : decode cX2_init 66 = .ok (.putfield 49, 3) := by decide +kernel
theorem dX2_init_69 : decode cX2_init 69 = .ok (.return_, 1) := by decide +kernel
theorem dX2_copyFrom_0 : decode cX2_copyFrom 0 = .ok (.aload_n 0, 1) := by decide +kernel
theorem dX2_copyFrom_1 : decode cX2_copyFrom 1 = .ok (.getfield 12, 3) := by decide +kernel
theorem dX2_copyFrom_4 : decode cX2_copyFrom 4 = .ok (.aload_n 1, 1) := by decide +kernel
theorem dX2_copyFrom_5 : decode cX2_copyFrom 5 = .ok (.getfield 12, 3) := by decide +kernel
theorem dX2_copyFrom_8 : decode cX2_copyFrom 8 = .ok (.invokevirtual 52, 3) := by decide +kernel
theorem dX2_copyFrom_11 : decode cX2_copyFrom 11 = .ok (.aload_n 0, 1) := by decide +kernel
theorem dX2_copyFrom_12 : decode cX2_copyFrom 12 = .ok (.getfield 21, 3) := by decide +kernel
theorem dX2_copyFrom_15 : decode cX2_copyFrom 15 = .ok (.aload_n 1, 1) := by decide +kernel
theorem dX2_copyFrom_16 : decode cX2_copyFrom 16 = .ok (.getfield 21, 3) := by decide +kernel
theorem dX2_copyFrom_19 : decode cX2_copyFrom 19 = .ok (.invokevirtual 56, 3) := by decide +kernel
theorem dX2_copyFrom_22 : decode cX2_copyFrom 22 = .ok (.aload_n 0, 1) := by decide +kernel
theorem dX2_copyFrom_23 : decode cX2_copyFrom 23 = .ok (.getfield 28, 3) := by decide +kernel
theorem dX2_copyFrom_26 : decode cX2_copyFrom 26 = .ok (.aload_n 1, 1) := by decide +kernel
theorem dX2_copyFrom_27 : decode cX2_copyFrom 27 = .ok (.getfield 28, 3) := by decide +kernel
theorem dX2_copyFrom_30 : decode cX2_copyFrom 30 = .ok (.invokevirtual 59, 3) := by decide +kernel
theorem dX2_copyFrom_33 : decode cX2_copyFrom 33 = .ok (.aload_n 0, 1) := by decide +kernel
theorem dX2_copyFrom_34 : decode cX2_copyFrom 34 = .ok (.getfield 35, 3) := by decide +kernel
theorem dX2_copyFrom_37 : decode cX2_copyFrom 37 = .ok (.aload_n 1, 1) := by decide +kernel
theorem dX2_copyFrom_38 : decode cX2_copyFrom 38 = .ok (.getfield 35, 3) := by decide +kernel
theorem dX2_copyFrom_41 : decode cX2_copyFrom 41 = .ok (.invokevirtual 62, 3) := by decide +kernel
theorem dX2_copyFrom_44 : decode cX2_copyFrom 44 = .ok (.aload_n 0, 1) := by decide +kernel
theorem dX2_copyFrom_45 : decode cX2_copyFrom 45 = .ok (.aload_n 1, 1) := by decide +kernel
theorem dX2_copyFrom_46 : decode cX2_copyFrom 46 = .ok (.getfield 39, 3) := by decide +kernel
theorem dX2_copyFrom_49 : decode cX2_copyFrom 49 = .ok (.putfield 39, 3) := by decide +kernel
theorem dX2_copyFrom_52 : decode cX2_copyFrom 52 = .ok (.aload_n 0, 1) := by decide +kernel
theorem dX2_copyFrom_53 : decode cX2_copyFrom 53 = .ok (.aload_n 1, 1) := by decide +kernel
theorem dX2_copyFrom_54 : decode cX2_copyFrom 54 = .ok (.getfield 43, 3) := by decide +kernel
theorem dX2_copyFrom_57 : decode cX2_copyFrom 57 = .ok (.putfield 43, 3) := by decide +kernel
theorem dX2_copyFrom_60 : decode cX2_copyFrom 60 = .ok (.aload_n 0, 1) := by decide +kernel
theorem dX2_copyFrom_61 : decode cX2_copyFrom 61 = .ok (.aload_n 1, 1) := by decide +kernel
theorem dX2_copyFrom_62 : decode cX2_copyFrom 62 = .ok (.getfield 46, 3) := by decide +kernel
theorem dX2_copyFrom_65 : decode cX2_copyFrom 65 = .ok (.putfield 46, 3) := by decide +kernel
theorem dX2_copyFrom_68 : decode cX2_copyFrom 68 = .ok (.aload_n 0, 1) := by decide +kernel
theorem dX2_copyFrom_69 : decode cX2_copyFrom 69 = .ok (.aload_n 1, 1) := by decide +kernel
theorem dX2_copyFrom_70 : decode cX2_copyFrom 70 = .ok (.getfield 49, 3) := by decide +kernel
theorem dX2_copyFrom_73 : decode cX2_copyFrom 73 = .ok (.putfield 49, 3) := by decide +kernel
theorem dX2_copyFrom_76 : decode cX2_copyFrom 76 = .ok (.return_, 1) := by decide +kernel
theorem dX3_init_0 : decode cX3_init 0 = .ok (.aload_n 0, 1) := by decide +kernel
theorem dX3_init_1 : decode cX3_init 1 = .ok (.invokespecial 3, 3) := by decide +kernel
theorem dX3_init_4 : decode cX3_init 4 = .ok (.aload_n 0, 1) := by decide +kernel
theorem dX3_init_5 : decode cX3_init 5 = .ok (.iconst 2, 1) := by decide +kernel
theorem dX3_init_6 : decode cX3_init 6 = .ok (.bipush 100, 2) := by decide +kernel
theorem dX3_init_8 : decode cX3_init 8 = .ok (.multianewarray 9 2, 4) := by decide +kernel
theorem dX3_init_12 : decode cX3_init 12 = .ok (.putfield 11, 3) := by decide +kernel
theorem dX3_init_15 : decode cX3_init 15 = .ok (.aload_n 0, 1) := by decide +kernel
theorem dX3_init_16 : decode cX3_init 16 = .ok (.aload_n 1, 1) := by decide +kernel
theorem dX3_init_17 : decode cX3_init 17 = .ok (.putfield 16, 3) := by decide +kernel
theorem dX3_init_20 : decode cX3_init 20 = .ok (.return_, 1) := by decide +kernel
theorem dX3_leastReach_0 : decode cX3_leastReach 0 = .ok (.aload_n 0, 1) := by decide +kernel
theorem dX3_leastReach_1 : decode cX3_leastReach 1 = .ok (.getfield 16, 3) := by decide +kernel
theorem dX3_leastReach_4 : decode cX3_leastReach 4 = .ok (.getfield 20, 3) := by decide +kernel
theorem dX3_leastReach_7 : decode cX3_leastReach 7 = .ok (.ifCond .ne 5, 3) := by decide +kernel
theorem dX3_leastReach_10 : decode cX3_leastReach 10 = .ok (.iconst 1, 1) := by decide +kernel
theorem dX3_leastReach_11 : decode cX3_leastReach 11 = .ok (.ireturn, 1) := by decide +kernel
theorem dX3_leastReach_12 : decode cX3_leastReach 12 = .ok (.aload_n 0, 1) := by decide +kernel
theorem dX3_leastReach_13 : decode cX3_leastReach 13 = .ok (.getfield 11, 3) := by decide +kernel
theorem dX3_leastReach_16 : decode cX3_leastReach 16 = .ok (.iconst 0, 1) := by decide +kernel
theorem dX3_leastReach_17 : decode cX3_leastReach 17 = .ok (.aaload, 1) := by decide +kernel
theorem dX3_leastReach_18 : decode cX3_leastReach 18 = .ok (.iconst 0, 1) := by decide +kernel
theorem dX3_leastReach_19 : decode cX3_leastReach 19 = .ok (.iconst 1, 1) := by decide +kernel
theorem dX3_leastReach_20 : decode cX3_leastReach 20 = .ok (.iastore, 1) := by decide +kernel
theorem dX3_leastReach_21 : decode cX3_leastReach 21 = .ok (.aload_n 0, 1) := by decide +kernel
theorem dX3_leastReach_22 : decode cX3_leastReach 22 = .ok (.getfield 11, 3) := by decide +kernel
theorem dX3_leastReach_25 : decode cX3_leastReach 25 = .ok (.iconst 1, 1) := by decide +kernel
theorem dX3_leastReach_26 : decode cX3_leastReach 26 = .ok (.aaload, 1) := by decide +kernel
theorem dX3_leastReach_27 : decode cX3_leastReach 27 = .ok (.iconst 0, 1) := by decide +kernel
theorem dX3_leastReach_28 : decode cX3_leastReach 28 = .ok (.iconst 1, 1) := by decide +kernel
theorem dX3_leastReach_29 : decode cX3_leastReach 29 = .ok (.iastore, 1) := by decide +kernel
theorem dX3_leastReach_30 : decode cX3_leastReach 30 = .ok (.iconst 1, 1) := by decide +kernel
theorem dX3_leastReach_31 : decode cX3_leastReach 31 = .ok (.istore_n 1, 1) := by decide +kernel
theorem dX3_leastReach_32 : decode cX3_leastReach 32 = .ok (.iload_n 1, 1) := by decide +kernel
theorem dX3_leastReach_33 : decode cX3_leastReach 33 = .ok (.aload_n 0, 1) := by decide +kernel
theorem dX3_leastReach_34 : decode cX3_leastReach 34 = .ok (.getfield 16, 3) := by decide +kernel
theorem dX3_leastReach_37 : decode cX3_leastReach 37 = .ok (.getfield 20, 3) := by decide +kernel
theorem dX3_leastReach_40 : decode cX3_leastReach 40 = .ok (.if_icmp .ge 53, 3) := by decide +kernel
theorem dX3_leastReach_43 : decode cX3_leastReach 43 = .ok (.aload_n 0, 1) := by decide +kernel
theorem dX3_leastReach_44 : decode cX3_leastReach 44 = .ok (.iconst 1, 1) := by decide +kernel
theorem dX3_leastReach_45 : decode cX3_leastReach 45 = .ok (.iload_n 1, 1) := by decide +kernel
theorem dX3_leastReach_46 : decode cX3_leastReach 46 = .ok (.invokevirtual 26, 3) := by decide +kernel
theorem dX3_leastReach_49 : decode cX3_leastReach 49 = .ok (.istore_n 2, 1) := by decide +kernel
theorem dX3_leastReach_50 : decode cX3_leastReach 50 = .ok (.aload_n 0, 1) := by decide +kernel
theorem dX3_leastReach_51 : decode cX3_leastReach 51 = .ok (.iconst 0, 1) := by decide +kernel
theorem dX3_leastReach_52 : decode cX3_leastReach 52 = .ok (.iload_n 1, 1) := by decide +kernel
theorem dX3_leastReach_53 : decode cX3_leastReach 53 = .ok (.invokevirtual 26, 3) := by decide +kernel
theorem dX3_leastReach_56 : decode cX3_leastReach 56 = .ok (.istore_n 3, 1) := by decide +kernel
theorem dX3_leastReach_57 : decode cX3_leastReach 57 = .ok (.aload_n 0, 1) := by decide +kernel
theorem dX3_leastReach_58 : decode cX3_leastReach 58 = .ok (.iconst 0, 1) := by decide +kernel
theorem dX3_leastReach_59 : decode cX3_leastReach 59 = .ok (.iload_n 1, 1) := by decide +kernel
theorem dX3_leastReach_60 : decode cX3_leastReach 60 = .ok (.invokevirtual 30, 3) := by decide +kernel
theorem dX3_leastReach_63 : decode cX3_leastReach 63 = .ok (.aload_n 0, 1) := by decide +kernel
theorem dX3_leastReach_64 : decode cX3_leastReach 64 = .ok (.iconst 1, 1) := by decide +kernel
theorem dX3_leastReach_65 : decode cX3_leastReach 65 = .ok (.iload_n 1, 1) := by decide +kernel
theorem dX3_leastReach_66 : decode cX3_leastReach 66 = .ok (.invokevirtual 30, 3) := by decide +kernel
theorem dX3_leastReach_69 : decode cX3_leastReach 69 = .ok (.aload_n 0, 1) := by decide +kernel
theorem dX3_leastReach_70 : decode cX3_leastReach 70 = .ok (.getfield 11, 3) := by decide +kernel
theorem dX3_leastReach_73 : decode cX3_leastReach 73 = .ok (.iconst 0, 1) := by decide +kernel
theorem dX3_leastReach_74 : decode cX3_leastReach 74 = .ok (.aaload, 1) := by decide +kernel
theorem dX3_leastReach_75 : decode cX3_leastReach 75 = .ok (.iload_n 1, 1) := by decide +kernel
theorem dX3_leastReach_76 : decode cX3_leastReach 76 = .ok (.iload_n 2, 1) := by decide +kernel
theorem dX3_leastReach_77 : decode cX3_leastReach 77 = .ok (.iastore, 1) := by decide +kernel
theorem dX3_leastReach_78 : decode cX3_leastReach 78 = .ok (.aload_n 0, 1) := by decide +kernel
theorem dX3_leastReach_79 : decode cX3_leastReach 79 = .ok (.getfield 11, 3) := by decide +kernel
theorem dX3_leastReach_82 : decode cX3_leastReach 82 = .ok (.iconst 1, 1) := by decide +kernel
theorem dX3_leastReach_83 : decode cX3_leastReach 83 = .ok (.aaload, 1) := by decide +kernel
theorem dX3_leastReach_84 : decode cX3_leastReach 84 = .ok (.iload_n 1, 1) := by decide +kernel
theorem dX3_leastReach_85 : decode cX3_leastReach 85 = .ok (.iload_n 3, 1) := by decide +kernel
theorem dX3_leastReach_86 : decode cX3_leastReach 86 = .ok (.iastore, 1) := by decide +kernel
theorem dX3_leastReach_87 : decode cX3_leastReach 87 = .ok (.iinc 1 1, 3) := by decide +kernel
theorem dX3_leastReach_90 : decode cX3_leastReach 90 = .ok (.goto (-58), 3) := by decide +kernel
theorem dX3_leastReach_93 : decode cX3_leastReach 93 = .ok (.bipush 25, 2) := by decide +kernel
theorem dX3_leastReach_95 : decode cX3_leastReach 95 = .ok (.istore_n 1, 1) := by decide +kernel
theorem dX3_leastReach_96 : decode cX3_leastReach 96 = .ok (.iconst 0, 1) := by decide +kernel
theorem dX3_leastReach_97 : decode cX3_leastReach 97 = .ok (.istore_n 2, 1) := by decide +kernel
theorem dX3_leastReach_98 : decode cX3_leastReach 98 = .ok (.iload_n 2, 1) := by decide +kernel
theorem dX3_leastReach_99 : decode cX3_leastReach 99 = .ok (.aload_n 0, 1) := by decide +kernel
theorem dX3_leastReach_100 : decode cX3_leastReach 100 = .ok (.getfield 16, 3) := by decide +kernel
theorem dX3_leastReach_103 : decode cX3_leastReach 103 = .ok (.getfield 20, 3) := by decide +kernel
theorem dX3_leastReach_106 : decode cX3_leastReach 106 = .ok (.if_icmp .ge 33, 3) := by decide +kernel
theorem dX3_leastReach_109 : decode cX3_leastReach 109 = .ok (.iload_n 1, 1) := by decide +kernel
theorem dX3_leastReach_110 : decode cX3_leastReach 110 = .ok (.aload_n 0, 1) := by decide +kernel
theorem dX3_leastReach_111 : decode cX3_leastReach 111 = .ok (.getfield 11, 3) := by decide +kernel
theorem dX3_leastReach_114 : decode cX3_leastReach 114 = .ok (.iconst 0, 1) := by decide +kernel
theorem dX3_leastReach_115 : decode cX3_leastReach 115 = .ok (.aaload, 1) := by decide +kernel
theorem dX3_leastReach_116 : decode cX3_leastReach 116 = .ok (.iload_n 2, 1) := by decide +kernel
theorem dX3_leastReach_117 : decode cX3_leastReach 117 = .ok (.iaload, 1) := by decide +kernel
theorem dX3_leastReach_118 : decode cX3_leastReach 118 = .ok (.aload_n 0, 1) := by decide +kernel
theorem dX3_leastReach_119 : decode cX3_leastReach 119 = .ok (.getfield 11, 3) := by decide +kernel
theorem dX3_leastReach_122 : decode cX3_leastReach 122 = .ok (.iconst 1, 1) := by decide +kernel
theorem dX3_leastReach_123 : decode cX3_leastReach 123 = .ok (.aaload, 1) := by decide +kernel
theorem dX3_leastReach_124 : decode cX3_leastReach 124 = .ok (.iload_n 2, 1) := by decide +kernel
theorem dX3_leastReach_125 : decode cX3_leastReach 125 = .ok (.iaload, 1) := by decide +kernel
theorem dX3_leastReach_126 : decode cX3_leastReach 126 = .ok (.invokestatic 34, 3) := by decide +kernel
theorem dX3_leastReach_129 : decode cX3_leastReach 129 = .ok (.invokestatic 34, 3) := by decide +kernel
theorem dX3_leastReach_132 : decode cX3_leastReach 132 = .ok (.istore_n 1, 1) := by decide +kernel
theorem dX3_leastReach_133 : decode cX3_leastReach 133 = .ok (.iinc 2 1, 3) := by decide +kernel
theorem dX3_leastReach_136 : decode cX3_leastReach 136 = .ok (.goto (-38), 3) := by decide +kernel
theorem dX3_leastReach_139 : decode cX3_leastReach 139 = .ok (.iload_n 1, 1) := by decide +kernel
theorem dX3_leastReach_140 : decode cX3_leastReach 140 = .ok (.bipush 25, 2) := by decide +kernel
theorem dX3_leastReach_142 : decode cX3_leastReach 142 = .ok (.if_icmp .ge 7, 3) := by decide +kernel
theorem dX3_leastReach_145 : decode cX3_leastReach 145 = .ok (.iload_n 1, 1) := by decide +kernel
theorem dX3_leastReach_146 : decode cX3_leastReach 146 = .ok (.goto 4, 3) := by decide +kernel
theorem dX3_leastReach_149 : decode cX3_leastReach 149 = .ok (.iconst (-1), 1) := by decide +kernel
theorem dX3_leastReach_150 : decode cX3_leastReach 150 = .ok (.ireturn, 1) := by decide +kernel
theorem dX3_handOver_0 : decode cX3_handOver 0 = .ok (.iload_n 1, 1) := by decide +kernel
theorem dX3_handOver_1 : decode cX3_handOver 1 = .ok (.iconst 1, 1) := by decide +kernel
theorem dX3_handOver_2 : decode cX3_handOver 2 = .ok (.if_icmp .ne 29, 3) := by decide +kernel
theorem dX3_handOver_5 : decode cX3_handOver 5 = .ok (.aload_n 0, 1) := by decide +kernel
theorem dX3_handOver_6 : decode cX3_handOver 6 = .ok (.getfield 16, 3) := by decide +kernel
theorem dX3_handOver_9 : decode cX3_handOver 9 = .ok (.getfield 39, 3) := by decide +kernel
theorem dX3_handOver_12 : decode cX3_handOver 12 = .ok (.iload_n 2, 1) := by decide +kernel
theorem dX3_handOver_13 : decode cX3_handOver 13 = .ok (.iaload, 1) := by decide +kernel
theorem dX3_handOver_14 : decode cX3_handOver 14 = .ok (.aload_n 0, 1) := by decide +kernel
theorem dX3_handOver_15 : decode cX3_handOver 15 = .ok (.getfield 16, 3) := by decide +kernel
theorem dX3_handOver_18 : decode cX3_handOver 18 = .ok (.getfield 39, 3) := by decide +kernel
theorem dX3_handOver_21 : decode cX3_handOver 21 = .ok (.iload_n 2, 1) := by decide +kernel
theorem dX3_handOver_22 : decode cX3_handOver 22 = .ok (.iconst 1, 1) := by decide +kernel
theorem dX3_handOver_23 : decode cX3_handOver 23 = .ok (.isub, 1) := by decide +kernel
theorem dX3_handOver_24 : decode cX3_handOver 24 = .ok (.iaload, 1) := by decide +kernel
theorem dX3_handOver_25 : decode cX3_handOver 25 = .ok (.if_icmp .ne 6, 3) := by decide +kernel
theorem dX3_handOver_28 : decode cX3_handOver 28 = .ok (.bipush 25, 2) := by decide +kernel
theorem dX3_handOver_30 : decode cX3_handOver 30 = .ok (.ireturn, 1) := by decide +kernel
theorem dX3_handOver_31 : decode cX3_handOver 31 = .ok (.bipush 25, 2) := by decide +kernel
theorem dX3_handOver_33 : decode cX3_handOver 33 = .ok (.istore_n 3, 1) := by decide +kernel
theorem dX3_handOver_34 : decode cX3_handOver 34 = .ok (.iconst 0, 1) := by decide +kernel
theorem dX3_handOver_35 : decode cX3_handOver 35 = .ok (.istore 4, 2) := by decide +kernel
theorem dX3_handOver_37 : decode cX3_handOver 37 = .ok (.iload 4, 2) := by decide +kernel
theorem dX3_handOver_39 : decode cX3_handOver 39 = .ok (.iload_n 2, 1) := by decide +kernel
theorem dX3_handOver_40 : decode cX3_handOver 40 = .ok (.if_icmp .ge 35, 3) := by decide +kernel
theorem dX3_handOver_43 : decode cX3_handOver 43 = .ok (.iload_n 3, 1) := by decide +kernel
theorem dX3_handOver_44 : decode cX3_handOver 44 = .ok (.aload_n 0, 1) := by decide +kernel
theorem dX3_handOver_45 : decode cX3_handOver 45 = .ok (.getfield 11, 3) := by decide +kernel
theorem dX3_handOver_48 : decode cX3_handOver 48 = .ok (.iload_n 1, 1) := by decide +kernel
theorem dX3_handOver_49 : decode cX3_handOver 49 = .ok (.aaload, 1) := by decide +kernel
theorem dX3_handOver_50 : decode cX3_handOver 50 = .ok (.iload 4, 2) := by decide +kernel
theorem dX3_handOver_52 : decode cX3_handOver 52 = .ok (.iaload, 1) := by decide +kernel
theorem dX3_handOver_53 : decode cX3_handOver 53 = .ok (.aload_n 0, 1) := by decide +kernel
theorem dX3_handOver_54 : decode cX3_handOver 54 = .ok (.iload 4, 2) := by decide +kernel
theorem dX3_handOver_56 : decode cX3_handOver 56 = .ok (.iconst 1, 1) := by decide +kernel
theorem dX3_handOver_57 : decode cX3_handOver 57 = .ok (.isub, 1) := by decide +kernel
theorem dX3_handOver_58 : decode cX3_handOver 58 = .ok (.iload_n 2, 1) := by decide +kernel
theorem dX3_handOver_59 : decode cX3_handOver 59 = .ok (.invokevirtual 43, 3) := by decide +kernel
theorem dX3_handOver_62 : decode cX3_handOver 62 = .ok (.invokestatic 46, 3) := by decide +kernel
theorem dX3_handOver_65 : decode cX3_handOver 65 = .ok (.invokestatic 34, 3) := by decide +kernel
theorem dX3_handOver_68 : decode cX3_handOver 68 = .ok (.istore_n 3, 1) := by decide +kernel
theorem dX3_handOver_69 : decode cX3_handOver 69 = .ok (.iinc 4 1, 3) := by decide +kernel
theorem dX3_handOver_72 : decode cX3_handOver 72 = .ok (.goto (-35), 3) := by decide +kernel
theorem dX3_handOver_75 : decode cX3_handOver 75 = .ok (.iload_n 3, 1) := by decide +kernel
theorem dX3_handOver_76 : decode cX3_handOver 76 = .ok (.ireturn, 1) := by decide +kernel
theorem dX3_stay_0 : decode cX3_stay 0 = .ok (.aload_n 0, 1) := by decide +kernel
theorem dX3_stay_1 : decode cX3_stay 1 = .ok (.iload_n 2, 1) := by decide +kernel
theorem dX3_stay_2 : decode cX3_stay 2 = .ok (.iconst 1, 1) := by decide +kernel
theorem dX3_stay_3 : decode cX3_stay 3 = .ok (.isub, 1) := by decide +kernel
theorem dX3_stay_4 : decode cX3_stay 4 = .ok (.iload_n 2, 1) := by decide +kernel
theorem dX3_stay_5 : decode cX3_stay 5 = .ok (.invokevirtual 43, 3) := by decide +kernel
theorem dX3_stay_8 : decode cX3_stay 8 = .ok (.istore_n 3, 1) := by decide +kernel
theorem dX3_stay_9 : decode cX3_stay 9 = .ok (.iconst 0, 1) := by decide +kernel
theorem dX3_stay_10 : decode cX3_stay 10 = .ok (.istore 4, 2) := by decide +kernel
theorem dX3_stay_12 : decode cX3_stay 12 = .ok (.iload 4, 2) := by decide +kernel
theorem dX3_stay_14 : decode cX3_stay 14 = .ok (.iload_n 2, 1) := by decide +kernel
theorem dX3_stay_15 : decode cX3_stay 15 = .ok (.if_icmp .ge 31, 3) := by decide +kernel
theorem dX3_stay_18 : decode cX3_stay 18 = .ok (.aload_n 0, 1) := by decide +kernel
theorem dX3_stay_19 : decode cX3_stay 19 = .ok (.getfield 11, 3) := by decide +kernel
theorem dX3_stay_22 : decode cX3_stay 22 = .ok (.iload_n 1, 1) := by decide +kernel
theorem dX3_stay_23 : decode cX3_stay 23 = .ok (.aaload, 1) := by decide +kernel
theorem dX3_stay_24 : decode cX3_stay 24 = .ok (.iload 4, 2) := by decide +kernel
theorem dX3_stay_26 : decode cX3_stay 26 = .ok (.aload_n 0, 1) := by decide +kernel
theorem dX3_stay_27 : decode cX3_stay 27 = .ok (.getfield 11, 3) := by decide +kernel
theorem dX3_stay_30 : decode cX3_stay 30 = .ok (.iload_n 1, 1) := by decide +kernel
theorem dX3_stay_31 : decode cX3_stay 31 = .ok (.aaload, 1) := by decide +kernel
theorem dX3_stay_32 : decode cX3_stay 32 = .ok (.iload 4, 2) := by decide +kernel
theorem dX3_stay_34 : decode cX3_stay 34 = .ok (.iaload, 1) := by decide +kernel
theorem dX3_stay_35 : decode cX3_stay 35 = .ok (.iload_n 3, 1) := by decide +kernel
theorem dX3_stay_36 : decode cX3_stay 36 = .ok (.invokestatic 46, 3) := by decide +kernel
theorem dX3_stay_39 : decode cX3_stay 39 = .ok (.iastore, 1) := by decide +kernel
theorem dX3_stay_40 : decode cX3_stay 40 = .ok (.iinc 4 1, 3) := by decide +kernel
theorem dX3_stay_43 : decode cX3_stay 43 = .ok (.goto (-31), 3) := by decide +kernel
theorem dX3_stay_46 : decode cX3_stay 46 = .ok (.return_, 1) := by decide +kernel
theorem dX3_reachFor_0 : decode cX3_reachFor 0 = .ok (.iload_n 1, 1) := by decide +kernel
theorem dX3_reachFor_1 : decode cX3_reachFor 1 = .ok (.iconst (-1), 1) := by decide +kernel
theorem dX3_reachFor_2 : decode cX3_reachFor 2 = .ok (.if_icmp .ne 5, 3) := by decide +kernel
theorem dX3_reachFor_5 : decode cX3_reachFor 5 = .ok (.iconst 1, 1) := by decide +kernel
theorem dX3_reachFor_6 : decode cX3_reachFor 6 = .ok (.ireturn, 1) := by decide +kernel
theorem dX3_reachFor_7 : decode cX3_reachFor 7 = .ok (.aload_n 0, 1) := by decide +kernel
theorem dX3_reachFor_8 : decode cX3_reachFor 8 = .ok (.getfield 16, 3) := by decide +kernel
theorem dX3_reachFor_11 : decode cX3_reachFor 11 = .ok (.getfield 39, 3) := by decide +kernel
theorem dX3_reachFor_14 : decode cX3_reachFor 14 = .ok (.iload_n 2, 1) := by decide +kernel
theorem dX3_reachFor_15 : decode cX3_reachFor 15 = .ok (.iaload, 1) := by decide +kernel
theorem dX3_reachFor_16 : decode cX3_reachFor 16 = .ok (.aload_n 0, 1) := by decide +kernel
theorem dX3_reachFor_17 : decode cX3_reachFor 17 = .ok (.getfield 16, 3) := by decide +kernel
theorem dX3_reachFor_20 : decode cX3_reachFor 20 = .ok (.getfield 39, 3) := by decide +kernel
theorem dX3_reachFor_23 : decode cX3_reachFor 23 = .ok (.iload_n 1, 1) := by decide +kernel
theorem dX3_reachFor_24 : decode cX3_reachFor 24 = .ok (.iaload, 1) := by decide +kernel
theorem dX3_reachFor_25 : decode cX3_reachFor 25 = .ok (.isub, 1) := by decide +kernel
theorem dX3_reachFor_26 : decode cX3_reachFor 26 = .ok (.istore_n 3, 1) := by decide +kernel
theorem dX3_reachFor_27 : decode cX3_reachFor 27 = .ok (.iload_n 3, 1) := by decide +kernel
theorem dX3_reachFor_28 : decode cX3_reachFor 28 = .ok (.iconst 1, 1) := by decide +kernel
theorem dX3_reachFor_29 : decode cX3_reachFor 29 = .ok (.if_icmp .ge 6, 3) := by decide +kernel
theorem dX3_reachFor_32 : decode cX3_reachFor 32 = .ok (.bipush 25, 2) := by decide +kernel
theorem dX3_reachFor_34 : decode cX3_reachFor 34 = .ok (.ireturn, 1) := by decide +kernel
theorem dX3_reachFor_35 : decode cX3_reachFor 35 = .ok (.aload_n 0, 1) := by decide +kernel
theorem dX3_reachFor_36 : decode cX3_reachFor 36 = .ok (.getfield 16, 3) := by decide +kernel
theorem dX3_reachFor_39 : decode cX3_reachFor 39 = .ok (.iload_n 1, 1) := by decide +kernel
theorem dX3_reachFor_40 : decode cX3_reachFor 40 = .ok (.iload_n 2, 1) := by decide +kernel
theorem dX3_reachFor_41 : decode cX3_reachFor 41 = .ok (.invokevirtual 49, 3) := by decide +kernel
theorem dX3_reachFor_44 : decode cX3_reachFor 44 = .ok (.iload_n 3, 1) := by decide +kernel
theorem dX3_reachFor_45 : decode cX3_reachFor 45 = .ok (.iadd, 1) := by decide +kernel
theorem dX3_reachFor_46 : decode cX3_reachFor 46 = .ok (.iconst 1, 1) := by decide +kernel
theorem dX3_reachFor_47 : decode cX3_reachFor 47 = .ok (.isub, 1) := by decide +kernel
theorem dX3_reachFor_48 : decode cX3_reachFor 48 = .ok (.iload_n 3, 1) := by decide +kernel
theorem dX3_reachFor_49 : decode cX3_reachFor 49 = .ok (.idiv, 1) := by decide +kernel
theorem dX3_reachFor_50 : decode cX3_reachFor 50 = .ok (.ireturn, 1) := by decide +kernel
theorem dX4_init_0 : decode cX4_init 0 = .ok (.aload_n 0, 1) := by decide +kernel
theorem dX4_init_1 : decode cX4_init 1 = .ok (.invokespecial 3, 3) := by decide +kernel
theorem dX4_init_4 : decode cX4_init 4 = .ok (.aload_n 0, 1) := by decide +kernel
theorem dX4_init_5 : decode cX4_init 5 = .ok (.new 9, 3) := by decide +kernel
theorem dX4_init_8 : decode cX4_init 8 = .ok (.dup, 1) := by decide +kernel
theorem dX4_init_9 : decode cX4_init 9 = .ok (.invokespecial 11, 3) := by decide +kernel
theorem dX4_init_12 : decode cX4_init 12 = .ok (.putfield 12, 3) := by decide +kernel
theorem dX4_init_15 : decode cX4_init 15 = .ok (.aload_n 0, 1) := by decide +kernel
theorem dX4_init_16 : decode cX4_init 16 = .ok (.iconst 4, 1) := by decide +kernel
theorem dX4_init_17 : decode cX4_init 17 = .ok (.newarray .int, 2) := by decide +kernel
theorem dX4_init_19 : decode cX4_init 19 = .ok (.putfield 18, 3) := by decide +kernel
theorem dX4_init_22 : decode cX4_init 22 = .ok (.aload_n 0, 1) := by decide +kernel
theorem dX4_init_23 : decode cX4_init 23 = .ok (.iconst 4, 1) := by decide +kernel
theorem dX4_init_24 : decode cX4_init 24 = .ok (.newarray .int, 2) := by decide +kernel
theorem dX4_init_26 : decode cX4_init 26 = .ok (.putfield 22, 3) := by decide +kernel
theorem dX4_init_29 : decode cX4_init 29 = .ok (.aload_n 0, 1) := by decide +kernel
theorem dX4_init_30 : decode cX4_init 30 = .ok (.iconst 4, 1) := by decide +kernel
theorem dX4_init_31 : decode cX4_init 31 = .ok (.newarray .int, 2) := by decide +kernel
theorem dX4_init_33 : decode cX4_init 33 = .ok (.putfield 25, 3) := by decide +kernel
theorem dX4_init_36 : decode cX4_init 36 = .ok (.aload_n 0, 1) := by decide +kernel
theorem dX4_init_37 : decode cX4_init 37 = .ok (.iconst 4, 1) := by decide +kernel
theorem dX4_init_38 : decode cX4_init 38 = .ok (.newarray .int, 2) := by decide +kernel
theorem dX4_init_40 : decode cX4_init 40 = .ok (.putfield 28, 3) := by decide +kernel
theorem dX4_init_43 : decode cX4_init 43 = .ok (.aload_n 0, 1) := by decide +kernel
theorem dX4_init_44 : decode cX4_init 44 = .ok (.aload_n 1, 1) := by decide +kernel
theorem dX4_init_45 : decode cX4_init 45 = .ok (.putfield 31, 3) := by decide +kernel
theorem dX4_init_48 : decode cX4_init 48 = .ok (.return_, 1) := by decide +kernel
theorem dX4_readAll_0 : decode cX4_readAll 0 = .ok (.aload_n 0, 1) := by decide +kernel
theorem dX4_readAll_1 : decode cX4_readAll 1 = .ok (.invokevirtual 35, 3) := by decide +kernel
theorem dX4_readAll_4 : decode cX4_readAll 4 = .ok (.iconst 1, 1) := by decide +kernel
theorem dX4_readAll_5 : decode cX4_readAll 5 = .ok (.istore_n 1, 1) := by decide +kernel
theorem dX4_readAll_6 : decode cX4_readAll 6 = .ok (.iconst 0, 1) := by decide +kernel
theorem dX4_readAll_7 : decode cX4_readAll 7 = .ok (.istore_n 2, 1) := by decide +kernel
theorem dX4_readAll_8 : decode cX4_readAll 8 = .ok (.iload_n 1, 1) := by decide +kernel
theorem dX4_readAll_9 : decode cX4_readAll 9 = .ok (.ifCond .eq 118, 3) := by decide +kernel
theorem dX4_readAll_12 : decode cX4_readAll 12 = .ok (.iload_n 2, 1) := by decide +kernel
theorem dX4_readAll_13 : decode cX4_readAll 13 = .ok (.ldc 38, 2) := by decide +kernel
theorem dX4_readAll_15 : decode cX4_readAll 15 = .ok (.if_icmp .ge 112, 3) := by decide +kernel
theorem dX4_readAll_18 : decode cX4_readAll 18 = .ok (.aload_n 0, 1) := by decide +kernel
theorem dX4_readAll_19 : decode cX4_readAll 19 = .ok (.invokevirtual 39, 3) := by decide +kernel
theorem dX4_readAll_22 : decode cX4_readAll 22 = .ok (.istore_n 3, 1) := by decide +kernel
theorem dX4_readAll_23 : decode cX4_readAll 23 = .ok (.iload_n 3, 1) := by decide +kernel
theorem dX4_readAll_24 : decode cX4_readAll 24 = .ok (.invokestatic 43, 3) := by decide +kernel
theorem dX4_readAll_27 : decode cX4_readAll 27 = .ok (.ifCond .eq 10, 3) := by decide +kernel
theorem dX4_readAll_30 : decode cX4_readAll 30 = .ok (.aload_n 0, 1) := by decide +kernel
theorem dX4_readAll_31 : decode cX4_readAll 31 = .ok (.invokevirtual 47, 3) := by decide +kernel
theorem dX4_readAll_34 : decode cX4_readAll 34 = .ok (.goto 69, 3) := by decide +kernel
theorem dX4_readAll_37 : decode cX4_readAll 37 = .ok (.iload_n 3, 1) := by decide +kernel
theorem dX4_readAll_38 : decode cX4_readAll 38 = .ok (.bipush 125, 2) := by decide +kernel
theorem dX4_readAll_40 : decode cX4_readAll 40 = .ok (.if_icmp .ne 10, 3) := by decide +kernel
theorem dX4_readAll_43 : decode cX4_readAll 43 = .ok (.aload_n 0, 1) := by decide +kernel
theorem dX4_readAll_44 : decode cX4_readAll 44 = .ok (.invokevirtual 50, 3) := by decide +kernel
theorem dX4_readAll_47 : decode cX4_readAll 47 = .ok (.goto 56, 3) := by decide +kernel
theorem dX4_readAll_50 : decode cX4_readAll 50 = .ok (.iload_n 3, 1) := by decide +kernel
theorem dX4_readAll_51 : decode cX4_readAll 51 = .ok (.bipush 98, 2) := by decide +kernel
theorem dX4_readAll_53 : decode cX4_readAll 53 = .ok (.if_icmp .eq 21, 3) := by decide +kernel
theorem dX4_readAll_56 : decode cX4_readAll 56 = .ok (.iload_n 3, 1) := by decide +kernel
theorem dX4_readAll_57 : decode cX4_readAll 57 = .ok (.bipush 40, 2) := by decide +kernel
theorem dX4_readAll_59 : decode cX4_readAll 59 = .ok (.if_icmp .eq 15, 3) := by decide +kernel
theorem dX4_readAll_62 : decode cX4_readAll 62 = .ok (.iload_n 3, 1) := by decide +kernel
theorem dX4_readAll_63 : decode cX4_readAll 63 = .ok (.bipush 95, 2) := by decide +kernel
theorem dX4_readAll_65 : decode cX4_readAll 65 = .ok (.if_icmp .eq 9, 3) := by decide +kernel
theorem dX4_readAll_68 : decode cX4_readAll 68 = .ok (.iload_n 3, 1) := by decide +kernel
theorem dX4_readAll_69 : decode cX4_readAll 69 = .ok (.bipush 116, 2) := by decide +kernel
theorem dX4_readAll_71 : decode cX4_readAll 71 = .ok (.if_icmp .ne 11, 3) := by decide +kernel
theorem dX4_readAll_74 : decode cX4_readAll 74 = .ok (.aload_n 0, 1) := by decide +kernel
theorem dX4_readAll_75 : decode cX4_readAll 75 = .ok (.iload_n 3, 1) := by decide +kernel
theorem dX4_readAll_76 : decode cX4_readAll 76 = .ok (.invokevirtual 53, 3) := by decide +kernel
theorem dX4_readAll_79 : decode cX4_readAll 79 = .ok (.goto 24, 3) := by decide +kernel
theorem dX4_readAll_82 : decode cX4_readAll 82 = .ok (.iload_n 3, 1) := by decide +kernel
theorem dX4_readAll_83 : decode cX4_readAll 83 = .ok (.iconst (-1), 1) := by decide +kernel
theorem dX4_readAll_84 : decode cX4_readAll 84 = .ok (.if_icmp .ne 10, 3) := by decide +kernel
theorem dX4_readAll_87 : decode cX4_readAll 87 = .ok (.aload_n 0, 1) := by decide +kernel
theorem dX4_readAll_88 : decode cX4_readAll 88 = .ok (.getfield 57, 3) := by decide +kernel
theorem dX4_readAll_91 : decode cX4_readAll 91 = .ok (.ifCond .le 12, 3) := by decide +kernel
theorem dX4_readAll_94 : decode cX4_readAll 94 = .ok (.aload_n 0, 1) := by decide +kernel
theorem dX4_readAll_95 : decode cX4_readAll 95 = .ok (.iconst 1, 1) := by decide +kernel
theorem dX4_readAll_96 : decode cX4_readAll 96 = .ok (.aload_n 0, 1) := by decide +kernel
theorem dX4_readAll_97 : decode cX4_readAll 97 = .ok (.getfield 61, 3) := by decide +kernel
theorem dX4_readAll_100 : decode cX4_readAll 100 = .ok (.invokevirtual 64, 3) := by decide +kernel
theorem dX4_readAll_103 : decode cX4_readAll 103 = .ok (.iload_n 3, 1) := by decide +kernel
theorem dX4_readAll_104 : decode cX4_readAll 104 = .ok (.iconst (-1), 1) := by decide +kernel
theorem dX4_readAll_105 : decode cX4_readAll 105 = .ok (.if_icmp .eq 14, 3) := by decide +kernel
theorem dX4_readAll_108 : decode cX4_readAll 108 = .ok (.aload_n 0, 1) := by decide +kernel
theorem dX4_readAll_109 : decode cX4_readAll 109 = .ok (.getfield 68, 3) := by decide +kernel
theorem dX4_readAll_112 : decode cX4_readAll 112 = .ok (.ifCond .ne 7, 3) := by decide +kernel
theorem dX4_readAll_115 : decode cX4_readAll 115 = .ok (.iconst 1, 1) := by decide +kernel
theorem dX4_readAll_116 : decode cX4_readAll 116 = .ok (.goto 4, 3) := by decide +kernel
theorem dX4_readAll_119 : decode cX4_readAll 119 = .ok (.iconst 0, 1) := by decide +kernel
theorem dX4_readAll_120 : decode cX4_readAll 120 = .ok (.istore_n 1, 1) := by decide +kernel
theorem dX4_readAll_121 : decode cX4_readAll 121 = .ok (.iinc 2 1, 3) := by decide +kernel
theorem dX4_readAll_124 : decode cX4_readAll 124 = .ok (.goto (-116), 3) := by decide +kernel
theorem dX4_readAll_127 : decode cX4_readAll 127 = .ok (.aload_n 0, 1) := by decide +kernel
theorem dX4_readAll_128 : decode cX4_readAll 128 = .ok (.getfield 12, 3) := by decide +kernel
theorem dX4_readAll_131 : decode cX4_readAll 131 = .ok (.aload_n 0, 1) := by decide +kernel
theorem dX4_readAll_132 : decode cX4_readAll 132 = .ok (.getfield 71, 3) := by decide +kernel
theorem dX4_readAll_135 : decode cX4_readAll 135 = .ok (.putfield 74, 3) := by decide +kernel
theorem dX4_readAll_138 : decode cX4_readAll 138 = .ok (.aload_n 0, 1) := by decide +kernel
theorem dX4_readAll_139 : decode cX4_readAll 139 = .ok (.getfield 68, 3) := by decide +kernel
theorem dX4_readAll_142 : decode cX4_readAll 142 = .ok (.ifCond .ne 7, 3) := by decide +kernel
theorem dX4_readAll_145 : decode cX4_readAll 145 = .ok (.iconst 1, 1) := by decide +kernel
theorem dX4_readAll_146 : decode cX4_readAll 146 = .ok (.goto 4, 3) := by decide +kernel
theorem dX4_readAll_149 : decode cX4_readAll 149 = .ok (.iconst 0, 1) := by decide +kernel
theorem dX4_readAll_150 : decode cX4_readAll 150 = .ok (.ireturn, 1) := by decide +kernel
theorem dX4_start_0 : decode cX4_start 0 = .ok (.aload_n 0, 1) := by decide +kernel
theorem dX4_start_1 : decode cX4_start 1 = .ok (.getfield 12, 3) := by decide +kernel
theorem dX4_start_4 : decode cX4_start 4 = .ok (.invokevirtual 77, 3) := by decide +kernel
theorem dX4_start_7 : decode cX4_start 7 = .ok (.aload_n 0, 1) := by decide +kernel
theorem dX4_start_8 : decode cX4_start 8 = .ok (.iconst 0, 1) := by decide +kernel
theorem dX4_start_9 : decode cX4_start 9 = .ok (.putfield 68, 3) := by decide +kernel
theorem dX4_start_12 : decode cX4_start 12 = .ok (.aload_n 0, 1) := by decide +kernel
theorem dX4_start_13 : decode cX4_start 13 = .ok (.iconst (-1), 1) := by decide +kernel
theorem dX4_start_14 : decode cX4_start 14 = .ok (.putfield 80, 3) := by decide +kernel
theorem dX4_start_17 : decode cX4_start 17 = .ok (.aload_n 0, 1) := by decide +kernel
theorem dX4_start_18 : decode cX4_start 18 = .ok (.iconst 0, 1) := by decide +kernel
theorem dX4_start_19 : decode cX4_start 19 = .ok (.putfield 57, 3) := by decide +kernel
theorem dX4_start_22 : decode cX4_start 22 = .ok (.aload_n 0, 1) := by decide +kernel
theorem dX4_start_23 : decode cX4_start 23 = .ok (.iconst 0, 1) := by decide +kernel
theorem dX4_start_24 : decode cX4_start 24 = .ok (.putfield 61, 3) := by decide +kernel
theorem dX4_start_27 : decode cX4_start 27 = .ok (.aload_n 0, 1) := by decide +kernel
theorem dX4_start_28 : decode cX4_start 28 = .ok (.iconst 4, 1) := by decide +kernel
theorem dX4_start_29 : decode cX4_start 29 = .ok (.putfield 83, 3) := by decide +kernel
theorem dX4_start_32 : decode cX4_start 32 = .ok (.aload_n 0, 1) := by decide +kernel
theorem dX4_start_33 : decode cX4_start 33 = .ok (.iconst 0, 1) := by decide +kernel
theorem dX4_start_34 : decode cX4_start 34 = .ok (.putfield 71, 3) := by decide +kernel
theorem dX4_start_37 : decode cX4_start 37 = .ok (.return_, 1) := by decide +kernel
theorem dX4_openGroup_0 : decode cX4_openGroup 0 = .ok (.aload_n 0, 1) := by decide +kernel
theorem dX4_openGroup_1 : decode cX4_openGroup 1 = .ok (.iconst 1, 1) := by decide +kernel
theorem dX4_openGroup_2 : decode cX4_openGroup 2 = .ok (.bipush 9, 2) := by decide +kernel
theorem dX4_openGroup_4 : decode cX4_openGroup 4 = .ok (.invokevirtual 86, 3) := by decide +kernel
theorem dX4_openGroup_7 : decode cX4_openGroup 7 = .ok (.istore_n 1, 1) := by decide +kernel
theorem dX4_openGroup_8 : decode cX4_openGroup 8 = .ok (.aload_n 0, 1) := by decide +kernel
theorem dX4_openGroup_9 : decode cX4_openGroup 9 = .ok (.bipush 120, 2) := by decide +kernel
theorem dX4_openGroup_11 : decode cX4_openGroup 11 = .ok (.invokevirtual 90, 3) := by decide +kernel
theorem dX4_openGroup_14 : decode cX4_openGroup 14 = .ok (.aload_n 0, 1) := by decide +kernel
theorem dX4_openGroup_15 : decode cX4_openGroup 15 = .ok (.invokevirtual 39, 3) := by decide +kernel
theorem dX4_openGroup_18 : decode cX4_openGroup 18 = .ok (.bipush 123, 2) := by decide +kernel
theorem dX4_openGroup_20 : decode cX4_openGroup 20 = .ok (.if_icmp .ne 20, 3) := by decide +kernel
theorem dX4_openGroup_23 : decode cX4_openGroup 23 = .ok (.aload_n 0, 1) := by decide +kernel
theorem dX4_openGroup_24 : decode cX4_openGroup 24 = .ok (.getfield 57, 3) := by decide +kernel
theorem dX4_openGroup_27 : decode cX4_openGroup 27 = .ok (.iconst 4, 1) := by decide +kernel
theorem dX4_openGroup_28 : decode cX4_openGroup 28 = .ok (.if_icmp .lt 12, 3) := by decide +kernel
theorem dX4_openGroup_31 : decode cX4_openGroup 31 = .ok (.aload_n 0, 1) := by decide +kernel
theorem dX4_openGroup_32 : decode cX4_openGroup 32 = .ok (.iconst 3, 1) := by decide +kernel
theorem dX4_openGroup_33 : decode cX4_openGroup 33 = .ok (.aload_n 0, 1) := by decide +kernel
theorem dX4_openGroup_34 : decode cX4_openGroup 34 = .ok (.getfield 61, 3) := by decide +kernel
theorem dX4_openGroup_37 : decode cX4_openGroup 37 = .ok (.invokevirtual 64, 3) := by decide +kernel
theorem dX4_openGroup_40 : decode cX4_openGroup 40 = .ok (.aload_n 0, 1) := by decide +kernel
theorem dX4_openGroup_41 : decode cX4_openGroup 41 = .ok (.bipush 123, 2) := by decide +kernel
theorem dX4_openGroup_43 : decode cX4_openGroup 43 = .ok (.invokevirtual 90, 3) := by decide +kernel
theorem dX4_openGroup_46 : decode cX4_openGroup 46 = .ok (.aload_n 0, 1) := by decide +kernel
theorem dX4_openGroup_47 : decode cX4_openGroup 47 = .ok (.getfield 68, 3) := by decide +kernel
theorem dX4_openGroup_50 : decode cX4_openGroup 50 = .ok (.ifCond .ne 70, 3) := by decide +kernel
theorem dX4_openGroup_53 : decode cX4_openGroup 53 = .ok (.aload_n 0, 1) := by decide +kernel
theorem dX4_openGroup_54 : decode cX4_openGroup 54 = .ok (.getfield 57, 3) := by decide +kernel
theorem dX4_openGroup_57 : decode cX4_openGroup 57 = .ok (.iconst 4, 1) := by decide +kernel
theorem dX4_openGroup_58 : decode cX4_openGroup 58 = .ok (.if_icmp .ge 62, 3) := by decide +kernel
theorem dX4_openGroup_61 : decode cX4_openGroup 61 = .ok (.aload_n 0, 1) := by decide +kernel
theorem dX4_openGroup_62 : decode cX4_openGroup 62 = .ok (.getfield 18, 3) := by decide +kernel
theorem dX4_openGroup_65 : decode cX4_openGroup 65 = .ok (.aload_n 0, 1) := by decide +kernel
theorem dX4_openGroup_66 : decode cX4_openGroup 66 = .ok (.getfield 57, 3) := by decide +kernel
theorem dX4_openGroup_69 : decode cX4_openGroup 69 = .ok (.aload_n 0, 1) := by decide +kernel
theorem dX4_openGroup_70 : decode cX4_openGroup 70 = .ok (.getfield 61, 3) := by decide +kernel
theorem dX4_openGroup_73 : decode cX4_openGroup 73 = .ok (.iastore, 1) := by decide +kernel
theorem dX4_openGroup_74 : decode cX4_openGroup 74 = .ok (.aload_n 0, 1) := by decide +kernel
theorem dX4_openGroup_75 : decode cX4_openGroup 75 = .ok (.getfield 22, 3) := by decide +kernel
theorem dX4_openGroup_78 : decode cX4_openGroup 78 = .ok (.aload_n 0, 1) := by decide +kernel
theorem dX4_openGroup_79 : decode cX4_openGroup 79 = .ok (.getfield 57, 3) := by decide +kernel
theorem dX4_openGroup_82 : decode cX4_openGroup 82 = .ok (.iload_n 1, 1) := by decide +kernel
theorem dX4_openGroup_83 : decode cX4_openGroup 83 = .ok (.iastore, 1) := by decide +kernel
theorem dX4_openGroup_84 : decode cX4_openGroup 84 = .ok (.aload_n 0, 1) := by decide +kernel
theorem dX4_openGroup_85 : decode cX4_openGroup 85 = .ok (.getfield 25, 3) := by decide +kernel
theorem dX4_openGroup_88 : decode cX4_openGroup 88 = .ok (.aload_n 0, 1) := by decide +kernel
theorem dX4_openGroup_89 : decode cX4_openGroup 89 = .ok (.getfield 57, 3) := by decide +kernel
theorem dX4_openGroup_92 : decode cX4_openGroup 92 = .ok (.aload_n 0, 1) := by decide +kernel
theorem dX4_openGroup_93 : decode cX4_openGroup 93 = .ok (.getfield 83, 3) := by decide +kernel
theorem dX4_openGroup_96 : decode cX4_openGroup 96 = .ok (.iastore, 1) := by decide +kernel
theorem dX4_openGroup_97 : decode cX4_openGroup 97 = .ok (.aload_n 0, 1) := by decide +kernel
theorem dX4_openGroup_98 : decode cX4_openGroup 98 = .ok (.getfield 28, 3) := by decide +kernel
theorem dX4_openGroup_101 : decode cX4_openGroup 101 = .ok (.aload_n 0, 1) := by decide +kernel
theorem dX4_openGroup_102 : decode cX4_openGroup 102 = .ok (.getfield 57, 3) := by decide +kernel
theorem dX4_openGroup_105 : decode cX4_openGroup 105 = .ok (.aload_n 0, 1) := by decide +kernel
theorem dX4_openGroup_106 : decode cX4_openGroup 106 = .ok (.getfield 71, 3) := by decide +kernel
theorem dX4_openGroup_109 : decode cX4_openGroup 109 = .ok (.iastore, 1) := by decide +kernel
theorem dX4_openGroup_110 : decode cX4_openGroup 110 = .ok (.aload_n 0, 1) := by decide +kernel
theorem dX4_openGroup_111 : decode cX4_openGroup 111 = .ok (.dup, 1) := by decide +kernel
theorem dX4_openGroup_112 : decode cX4_openGroup 112 = .ok (.getfield 57, 3) := by decide +kernel
theorem dX4_openGroup_115 : decode cX4_openGroup 115 = .ok (.iconst 1, 1) := by decide +kernel
theorem dX4_openGroup_116 : decode cX4_openGroup 116 = .ok (.iadd, 1) := by decide +kernel
theorem dX4_openGroup_117 : decode cX4_openGroup 117 = .ok (.putfield 57, 3) := by decide +kernel
theorem dX4_openGroup_120 : decode cX4_openGroup 120 = .ok (.return_, 1) := by decide +kernel
theorem dX4_closeGroup_0 : decode cX4_closeGroup 0 = .ok (.aload_n 0, 1) := by decide +kernel
theorem dX4_closeGroup_1 : decode cX4_closeGroup 1 = .ok (.getfield 57, 3) := by decide +kernel
theorem dX4_closeGroup_4 : decode cX4_closeGroup 4 = .ok (.ifCond .ne 13, 3) := by decide +kernel
theorem dX4_closeGroup_7 : decode cX4_closeGroup 7 = .ok (.aload_n 0, 1) := by decide +kernel
theorem dX4_closeGroup_8 : decode cX4_closeGroup 8 = .ok (.iconst 1, 1) := by decide +kernel
theorem dX4_closeGroup_9 : decode cX4_closeGroup 9 = .ok (.aload_n 0, 1) := by decide +kernel
theorem dX4_closeGroup_10 : decode cX4_closeGroup 10 = .ok (.getfield 61, 3) := by decide +kernel
theorem dX4_closeGroup_13 : decode cX4_closeGroup 13 = .ok (.invokevirtual 64, 3) := by decide +kernel
theorem dX4_closeGroup_16 : decode cX4_closeGroup 16 = .ok (.return_, 1) := by decide +kernel
theorem dX4_closeGroup_17 : decode cX4_closeGroup 17 = .ok (.aload_n 0, 1) := by decide +kernel
theorem dX4_closeGroup_18 : decode cX4_closeGroup 18 = .ok (.getfield 57, 3) := by decide +kernel
theorem dX4_closeGroup_21 : decode cX4_closeGroup 21 = .ok (.iconst 1, 1) := by decide +kernel
theorem dX4_closeGroup_22 : decode cX4_closeGroup 22 = .ok (.isub, 1) := by decide +kernel
theorem dX4_closeGroup_23 : decode cX4_closeGroup 23 = .ok (.istore_n 1, 1) := by decide +kernel
theorem dX4_closeGroup_24 : decode cX4_closeGroup 24 = .ok (.aload_n 0, 1) := by decide +kernel
theorem dX4_closeGroup_25 : decode cX4_closeGroup 25 = .ok (.getfield 22, 3) := by decide +kernel
theorem dX4_closeGroup_28 : decode cX4_closeGroup 28 = .ok (.iload_n 1, 1) := by decide +kernel
theorem dX4_closeGroup_29 : decode cX4_closeGroup 29 = .ok (.dup2, 1) := by decide +kernel
theorem dX4_closeGroup_30 : decode cX4_closeGroup 30 = .ok (.iaload, 1) := by decide +kernel
theorem dX4_closeGroup_31 : decode cX4_closeGroup 31 = .ok (.iconst 1, 1) := by decide +kernel
theorem dX4_closeGroup_32 : decode cX4_closeGroup 32 = .ok (.isub, 1) := by decide +kernel
theorem dX4_closeGroup_33 : decode cX4_closeGroup 33 = .ok (.iastore, 1) := by decide +kernel
theorem dX4_closeGroup_34 : decode cX4_closeGroup 34 = .ok (.aload_n 0, 1) := by decide +kernel
theorem dX4_closeGroup_35 : decode cX4_closeGroup 35 = .ok (.getfield 22, 3) := by decide +kernel
theorem dX4_closeGroup_38 : decode cX4_closeGroup 38 = .ok (.iload_n 1, 1) := by decide +kernel
theorem dX4_closeGroup_39 : decode cX4_closeGroup 39 = .ok (.iaload, 1) := by decide +kernel
theorem dX4_closeGroup_40 : decode cX4_closeGroup 40 = .ok (.ifCond .le 20, 3) := by decide +kernel
theorem dX4_closeGroup_43 : decode cX4_closeGroup 43 = .ok (.aload_n 0, 1) := by decide +kernel
theorem dX4_closeGroup_44 : decode cX4_closeGroup 44 = .ok (.getfield 71, 3) := by decide +kernel
theorem dX4_closeGroup_47 : decode cX4_closeGroup 47 = .ok (.aload_n 0, 1) := by decide +kernel
theorem dX4_closeGroup_48 : decode cX4_closeGroup 48 = .ok (.getfield 28, 3) := by decide +kernel
theorem dX4_closeGroup_51 : decode cX4_closeGroup 51 = .ok (.iload_n 1, 1) := by decide +kernel
theorem dX4_closeGroup_52 : decode cX4_closeGroup 52 = .ok (.iaload, 1) := by decide +kernel
theorem dX4_closeGroup_53 : decode cX4_closeGroup 53 = .ok (.if_icmp .le 7, 3) := by decide +kernel
theorem dX4_closeGroup_56 : decode cX4_closeGroup 56 = .ok (.iconst 1, 1) := by decide +kernel
theorem dX4_closeGroup_57 : decode cX4_closeGroup 57 = .ok (.goto 4, 3) := by decide +kernel
theorem dX4_closeGroup_60 : decode cX4_closeGroup 60 = .ok (.iconst 0, 1) := by decide +kernel
theorem dX4_closeGroup_61 : decode cX4_closeGroup 61 = .ok (.istore_n 2, 1) := by decide +kernel
theorem dX4_closeGroup_62 : decode cX4_closeGroup 62 = .ok (.iload_n 2, 1) := by decide +kernel
theorem dX4_closeGroup_63 : decode cX4_closeGroup 63 = .ok (.ifCond .eq 26, 3) := by decide +kernel
theorem dX4_closeGroup_66 : decode cX4_closeGroup 66 = .ok (.aload_n 0, 1) := by decide +kernel
theorem dX4_closeGroup_67 : decode cX4_closeGroup 67 = .ok (.aload_n 0, 1) := by decide +kernel
theorem dX4_closeGroup_68 : decode cX4_closeGroup 68 = .ok (.getfield 18, 3) := by decide +kernel
theorem dX4_closeGroup_71 : decode cX4_closeGroup 71 = .ok (.iload_n 1, 1) := by decide +kernel
theorem dX4_closeGroup_72 : decode cX4_closeGroup 72 = .ok (.iaload, 1) := by decide +kernel
theorem dX4_closeGroup_73 : decode cX4_closeGroup 73 = .ok (.putfield 61, 3) := by decide +kernel
theorem dX4_closeGroup_76 : decode cX4_closeGroup 76 = .ok (.aload_n 0, 1) := by decide +kernel
theorem dX4_closeGroup_77 : decode cX4_closeGroup 77 = .ok (.aload_n 0, 1) := by decide +kernel
theorem dX4_closeGroup_78 : decode cX4_closeGroup 78 = .ok (.getfield 25, 3) := by decide +kernel
theorem dX4_closeGroup_81 : decode cX4_closeGroup 81 = .ok (.iload_n 1, 1) := by decide +kernel
theorem dX4_closeGroup_82 : decode cX4_closeGroup 82 = .ok (.iaload, 1) := by decide +kernel
theorem dX4_closeGroup_83 : decode cX4_closeGroup 83 = .ok (.putfield 83, 3) := by decide +kernel
theorem dX4_closeGroup_86 : decode cX4_closeGroup 86 = .ok (.goto 18, 3) := by decide +kernel
theorem dX4_closeGroup_89 : decode cX4_closeGroup 89 = .ok (.aload_n 0, 1) := by decide +kernel
theorem dX4_closeGroup_90 : decode cX4_closeGroup 90 = .ok (.iload_n 1, 1) := by decide +kernel
theorem dX4_closeGroup_91 : decode cX4_closeGroup 91 = .ok (.putfield 57, 3) := by decide +kernel
theorem dX4_closeGroup_94 : decode cX4_closeGroup 94 = .ok (.aload_n 0, 1) := by decide +kernel
theorem dX4_closeGroup_95 : decode cX4_closeGroup 95 = .ok (.dup, 1) := by decide +kernel
theorem dX4_closeGroup_96 : decode cX4_closeGroup 96 = .ok (.getfield 61, 3) := by decide +kernel
theorem dX4_closeGroup_99 : decode cX4_closeGroup 99 = .ok (.iconst 1, 1) := by decide +kernel
theorem dX4_closeGroup_100 : decode cX4_closeGroup 100 = .ok (.iadd, 1) := by decide +kernel
theorem dX4_closeGroup_101 : decode cX4_closeGroup 101 = .ok (.putfield 61, 3) := by decide +kernel
theorem dX4_closeGroup_104 : decode cX4_closeGroup 104 = .ok (.return_, 1) := by decide +kernel
theorem dX4_readItem_0 : decode cX4_readItem 0 = .ok (.aload_n 0, 1) := by decide +kernel
theorem dX4_readItem_1 : decode cX4_readItem 1 = .ok (.getfield 61, 3) := by decide +kernel
theorem dX4_readItem_4 : decode cX4_readItem 4 = .ok (.istore_n 2, 1) := by decide +kernel
theorem dX4_readItem_5 : decode cX4_readItem 5 = .ok (.aload_n 0, 1) := by decide +kernel
theorem dX4_readItem_6 : decode cX4_readItem 6 = .ok (.getfield 71, 3) := by decide +kernel
theorem dX4_readItem_9 : decode cX4_readItem 9 = .ok (.sipush 1999, 3) := by decide +kernel
theorem dX4_readItem_12 : decode cX4_readItem 12 = .ok (.if_icmp .le 10, 3) := by decide +kernel
theorem dX4_readItem_15 : decode cX4_readItem 15 = .ok (.aload_n 0, 1) := by decide +kernel
theorem dX4_readItem_16 : decode cX4_readItem 16 = .ok (.iconst 4, 1) := by decide +kernel
theorem dX4_readItem_17 : decode cX4_readItem 17 = .ok (.iload_n 2, 1) := by decide +kernel
theorem dX4_readItem_18 : decode cX4_readItem 18 = .ok (.invokevirtual 64, 3) := by decide +kernel
theorem dX4_readItem_21 : decode cX4_readItem 21 = .ok (.return_, 1) := by decide +kernel
theorem dX4_readItem_22 : decode cX4_readItem 22 = .ok (.aload_n 0, 1) := by decide +kernel
theorem dX4_readItem_23 : decode cX4_readItem 23 = .ok (.dup, 1) := by decide +kernel
theorem dX4_readItem_24 : decode cX4_readItem 24 = .ok (.getfield 61, 3) := by decide +kernel
theorem dX4_readItem_27 : decode cX4_readItem 27 = .ok (.iconst 1, 1) := by decide +kernel
theorem dX4_readItem_28 : decode cX4_readItem 28 = .ok (.iadd, 1) := by decide +kernel
theorem dX4_readItem_29 : decode cX4_readItem 29 = .ok (.putfield 61, 3) := by decide +kernel
theorem dX4_readItem_32 : decode cX4_readItem 32 = .ok (.aload_n 0, 1) := by decide +kernel
theorem dX4_readItem_33 : decode cX4_readItem 33 = .ok (.iconst 0, 1) := by decide +kernel
theorem dX4_readItem_34 : decode cX4_readItem 34 = .ok (.putfield 94, 3) := by decide +kernel
theorem dX4_readItem_37 : decode cX4_readItem 37 = .ok (.iload_n 1, 1) := by decide +kernel
theorem dX4_readItem_38 : decode cX4_readItem 38 = .ok (.bipush 98, 2) := by decide +kernel
theorem dX4_readItem_40 : decode cX4_readItem 40 = .ok (.if_icmp .ne 11, 3) := by decide +kernel
theorem dX4_readItem_43 : decode cX4_readItem 43 = .ok (.aload_n 0, 1) := by decide +kernel
theorem dX4_readItem_44 : decode cX4_readItem 44 = .ok (.invokevirtual 97, 3) := by decide +kernel
theorem dX4_readItem_47 : decode cX4_readItem 47 = .ok (.pop, 1) := by decide +kernel
theorem dX4_readItem_48 : decode cX4_readItem 48 = .ok (.goto 38, 3) := by decide +kernel
theorem dX4_readItem_51 : decode cX4_readItem 51 = .ok (.iload_n 1, 1) := by decide +kernel
theorem dX4_readItem_52 : decode cX4_readItem 52 = .ok (.bipush 40, 2) := by decide +kernel
theorem dX4_readItem_54 : decode cX4_readItem 54 = .ok (.if_icmp .ne 10, 3) := by decide +kernel
theorem dX4_readItem_57 : decode cX4_readItem 57 = .ok (.aload_n 0, 1) := by decide +kernel
theorem dX4_readItem_58 : decode cX4_readItem 58 = .ok (.invokevirtual 100, 3) := by decide +kernel
theorem dX4_readItem_61 : decode cX4_readItem 61 = .ok (.goto 25, 3) := by decide +kernel
theorem dX4_readItem_64 : decode cX4_readItem 64 = .ok (.iload_n 1, 1) := by decide +kernel
theorem dX4_readItem_65 : decode cX4_readItem 65 = .ok (.bipush 116, 2) := by decide +kernel
theorem dX4_readItem_67 : decode cX4_readItem 67 = .ok (.if_icmp .ne 19, 3) := by decide +kernel
theorem dX4_readItem_70 : decode cX4_readItem 70 = .ok (.aload_n 0, 1) := by decide +kernel
theorem dX4_readItem_71 : decode cX4_readItem 71 = .ok (.aload_n 0, 1) := by decide +kernel
theorem dX4_readItem_72 : decode cX4_readItem 72 = .ok (.invokevirtual 97, 3) := by decide +kernel
theorem dX4_readItem_75 : decode cX4_readItem 75 = .ok (.putfield 103, 3) := by decide +kernel
theorem dX4_readItem_78 : decode cX4_readItem 78 = .ok (.aload_n 0, 1) := by decide +kernel
theorem dX4_readItem_79 : decode cX4_readItem 79 = .ok (.aload_n 0, 1) := by decide +kernel
theorem dX4_readItem_80 : decode cX4_readItem 80 = .ok (.invokevirtual 97, 3) := by decide +kernel
theorem dX4_readItem_83 : decode cX4_readItem 83 = .ok (.putfield 106, 3) := by decide +kernel
theorem dX4_readItem_86 : decode cX4_readItem 86 = .ok (.aload_n 0, 1) := by decide +kernel
theorem dX4_readItem_87 : decode cX4_readItem 87 = .ok (.invokevirtual 109, 3) := by decide +kernel
theorem dX4_readItem_90 : decode cX4_readItem 90 = .ok (.aload_n 0, 1) := by decide +kernel
theorem dX4_readItem_91 : decode cX4_readItem 91 = .ok (.getfield 68, 3) := by decide +kernel
theorem dX4_readItem_94 : decode cX4_readItem 94 = .ok (.ifCond .ne 19, 3) := by decide +kernel
theorem dX4_readItem_97 : decode cX4_readItem 97 = .ok (.aload_n 0, 1) := by decide +kernel
theorem dX4_readItem_98 : decode cX4_readItem 98 = .ok (.iload_n 1, 1) := by decide +kernel
theorem dX4_readItem_99 : decode cX4_readItem 99 = .ok (.bipush 116, 2) := by decide +kernel
theorem dX4_readItem_101 : decode cX4_readItem 101 = .ok (.if_icmp .ne 7, 3) := by decide +kernel
theorem dX4_readItem_104 : decode cX4_readItem 104 = .ok (.iconst 1, 1) := by decide +kernel
theorem dX4_readItem_105 : decode cX4_readItem 105 = .ok (.goto 4, 3) := by decide +kernel
theorem dX4_readItem_108 : decode cX4_readItem 108 = .ok (.iconst 0, 1) := by decide +kernel
theorem dX4_readItem_109 : decode cX4_readItem 109 = .ok (.iload_n 2, 1) := by decide +kernel
theorem dX4_readItem_110 : decode cX4_readItem 110 = .ok (.invokevirtual 112, 3) := by decide +kernel
theorem dX4_readItem_113 : decode cX4_readItem 113 = .ok (.return_, 1) := by decide +kernel
theorem dX4_readChord_0 : decode cX4_readChord 0 = .ok (.aload_n 0, 1) := by decide +kernel
theorem dX4_readChord_1 : decode cX4_readChord 1 = .ok (.invokevirtual 97, 3) := by decide +kernel
theorem dX4_readChord_4 : decode cX4_readChord 4 = .ok (.pop, 1) := by decide +kernel
theorem dX4_readChord_5 : decode cX4_readChord 5 = .ok (.iconst 0, 1) := by decide +kernel
theorem dX4_readChord_6 : decode cX4_readChord 6 = .ok (.istore_n 1, 1) := by decide +kernel
theorem dX4_readChord_7 : decode cX4_readChord 7 = .ok (.iload_n 1, 1) := by decide +kernel
theorem dX4_readChord_8 : decode cX4_readChord 8 = .ok (.iconst 4, 1) := by decide +kernel
theorem dX4_readChord_9 : decode cX4_readChord 9 = .ok (.if_icmp .ge 41, 3) := by decide +kernel
theorem dX4_readChord_12 : decode cX4_readChord 12 = .ok (.aload_n 0, 1) := by decide +kernel
theorem dX4_readChord_13 : decode cX4_readChord 13 = .ok (.getfield 68, 3) := by decide +kernel
theorem dX4_readChord_16 : decode cX4_readChord 16 = .ok (.ifCond .ne 34, 3) := by decide +kernel
theorem dX4_readChord_19 : decode cX4_readChord 19 = .ok (.aload_n 0, 1) := by decide +kernel
theorem dX4_readChord_20 : decode cX4_readChord 20 = .ok (.invokevirtual 39, 3) := by decide +kernel
theorem dX4_readChord_23 : decode cX4_readChord 23 = .ok (.bipush 41, 2) := by decide +kernel
theorem dX4_readChord_25 : decode cX4_readChord 25 = .ok (.if_icmp .ne 14, 3) := by decide +kernel
theorem dX4_readChord_28 : decode cX4_readChord 28 = .ok (.aload_n 0, 1) := by decide +kernel
theorem dX4_readChord_29 : decode cX4_readChord 29 = .ok (.dup, 1) := by decide +kernel
theorem dX4_readChord_30 : decode cX4_readChord 30 = .ok (.getfield 61, 3) := by decide +kernel
theorem dX4_readChord_33 : decode cX4_readChord 33 = .ok (.iconst 1, 1) := by decide +kernel
theorem dX4_readChord_34 : decode cX4_readChord 34 = .ok (.iadd, 1) := by decide +kernel
theorem dX4_readChord_35 : decode cX4_readChord 35 = .ok (.putfield 61, 3) := by decide +kernel
theorem dX4_readChord_38 : decode cX4_readChord 38 = .ok (.return_, 1) := by decide +kernel
theorem dX4_readChord_39 : decode cX4_readChord 39 = .ok (.aload_n 0, 1) := by decide +kernel
theorem dX4_readChord_40 : decode cX4_readChord 40 = .ok (.invokevirtual 97, 3) := by decide +kernel
theorem dX4_readChord_43 : decode cX4_readChord 43 = .ok (.pop, 1) := by decide +kernel
theorem dX4_readChord_44 : decode cX4_readChord 44 = .ok (.iinc 1 1, 3) := by decide +kernel
theorem dX4_readChord_47 : decode cX4_readChord 47 = .ok (.goto (-40), 3) := by decide +kernel
theorem dX4_readChord_50 : decode cX4_readChord 50 = .ok (.return_, 1) := by decide +kernel
theorem dX4_readBell_0 : decode cX4_readBell 0 = .ok (.aload_n 0, 1) := by decide +kernel
theorem dX4_readBell_1 : decode cX4_readBell 1 = .ok (.iconst 0, 1) := by decide +kernel
theorem dX4_readBell_2 : decode cX4_readBell 2 = .ok (.bipush 23, 2) := by decide +kernel
theorem dX4_readBell_4 : decode cX4_readBell 4 = .ok (.invokevirtual 86, 3) := by decide +kernel
theorem dX4_readBell_7 : decode cX4_readBell 7 = .ok (.istore_n 1, 1) := by decide +kernel
theorem dX4_readBell_8 : decode cX4_readBell 8 = .ok (.aload_n 0, 1) := by decide +kernel
theorem dX4_readBell_9 : decode cX4_readBell 9 = .ok (.getfield 68, 3) := by decide +kernel
theorem dX4_readBell_12 : decode cX4_readBell 12 = .ok (.ifCond .eq 5, 3) := by decide +kernel
theorem dX4_readBell_15 : decode cX4_readBell 15 = .ok (.iconst (-1), 1) := by decide +kernel
theorem dX4_readBell_16 : decode cX4_readBell 16 = .ok (.ireturn, 1) := by decide +kernel
theorem dX4_readBell_17 : decode cX4_readBell 17 = .ok (.iconst 1, 1) := by decide +kernel
theorem dX4_readBell_18 : decode cX4_readBell 18 = .ok (.iload_n 1, 1) := by decide +kernel
theorem dX4_readBell_19 : decode cX4_readBell 19 = .ok (.ishl, 1) := by decide +kernel
theorem dX4_readBell_20 : decode cX4_readBell 20 = .ok (.istore_n 2, 1) := by decide +kernel
theorem dX4_readBell_21 : decode cX4_readBell 21 = .ok (.aload_n 0, 1) := by decide +kernel
theorem dX4_readBell_22 : decode cX4_readBell 22 = .ok (.getfield 94, 3) := by decide +kernel
theorem dX4_readBell_25 : decode cX4_readBell 25 = .ok (.iload_n 2, 1) := by decide +kernel
theorem dX4_readBell_26 : decode cX4_readBell 26 = .ok (.iand, 1) := by decide +kernel
theorem dX4_readBell_27 : decode cX4_readBell 27 = .ok (.ifCond .ne 14, 3) := by decide +kernel
theorem dX4_readBell_30 : decode cX4_readBell 30 = .ok (.aload_n 0, 1) := by decide +kernel
theorem dX4_readBell_31 : decode cX4_readBell 31 = .ok (.getfield 94, 3) := by decide +kernel
theorem dX4_readBell_34 : decode cX4_readBell 34 = .ok (.invokestatic 116, 3) := by decide +kernel
theorem dX4_readBell_37 : decode cX4_readBell 37 = .ok (.iconst 4, 1) := by decide +kernel
theorem dX4_readBell_38 : decode cX4_readBell 38 = .ok (.if_icmp .ne 14, 3) := by decide +kernel
theorem dX4_readBell_41 : decode cX4_readBell 41 = .ok (.aload_n 0, 1) := by decide +kernel
theorem dX4_readBell_42 : decode cX4_readBell 42 = .ok (.iconst 2, 1) := by decide +kernel
theorem dX4_readBell_43 : decode cX4_readBell 43 = .ok (.aload_n 0, 1) := by decide +kernel
theorem dX4_readBell_44 : decode cX4_readBell 44 = .ok (.getfield 122, 3) := by decide +kernel
theorem dX4_readBell_47 : decode cX4_readBell 47 = .ok (.invokevirtual 64, 3) := by decide +kernel
theorem dX4_readBell_50 : decode cX4_readBell 50 = .ok (.iconst (-1), 1) := by decide +kernel
theorem dX4_readBell_51 : decode cX4_readBell 51 = .ok (.ireturn, 1) := by decide +kernel
theorem dX4_readBell_52 : decode cX4_readBell 52 = .ok (.aload_n 0, 1) := by decide +kernel
theorem dX4_readBell_53 : decode cX4_readBell 53 = .ok (.dup, 1) := by decide +kernel
theorem dX4_readBell_54 : decode cX4_readBell 54 = .ok (.getfield 94, 3) := by decide +kernel
theorem dX4_readBell_57 : decode cX4_readBell 57 = .ok (.iload_n 2, 1) := by decide +kernel
theorem dX4_readBell_58 : decode cX4_readBell 58 = .ok (.ior, 1) := by decide +kernel
theorem dX4_readBell_59 : decode cX4_readBell 59 = .ok (.putfield 94, 3) := by decide +kernel
theorem dX4_readBell_62 : decode cX4_readBell 62 = .ok (.iload_n 1, 1) := by decide +kernel
theorem dX4_readBell_63 : decode cX4_readBell 63 = .ok (.ireturn, 1) := by decide +kernel
theorem dX4_readLength_0 : decode cX4_readLength 0 = .ok (.aload_n 0, 1) := by decide +kernel
theorem dX4_readLength_1 : decode cX4_readLength 1 = .ok (.invokevirtual 39, 3) := by decide +kernel
theorem dX4_readLength_4 : decode cX4_readLength 4 = .ok (.bipush 58, 2) := by decide +kernel
theorem dX4_readLength_6 : decode cX4_readLength 6 = .ok (.if_icmp .ne 33, 3) := by decide +kernel
theorem dX4_readLength_9 : decode cX4_readLength 9 = .ok (.aload_n 0, 1) := by decide +kernel
theorem dX4_readLength_10 : decode cX4_readLength 10 = .ok (.dup, 1) := by decide +kernel
theorem dX4_readLength_11 : decode cX4_readLength 11 = .ok (.getfield 61, 3) := by decide +kernel
theorem dX4_readLength_14 : decode cX4_readLength 14 = .ok (.iconst 1, 1) := by decide +kernel
theorem dX4_readLength_15 : decode cX4_readLength 15 = .ok (.iadd, 1) := by decide +kernel
theorem dX4_readLength_16 : decode cX4_readLength 16 = .ok (.putfield 61, 3) := by decide +kernel
theorem dX4_readLength_19 : decode cX4_readLength 19 = .ok (.aload_n 0, 1) := by decide +kernel
theorem dX4_readLength_20 : decode cX4_readLength 20 = .ok (.iconst 1, 1) := by decide +kernel
theorem dX4_readLength_21 : decode cX4_readLength 21 = .ok (.bipush 64, 2) := by decide +kernel
theorem dX4_readLength_23 : decode cX4_readLength 23 = .ok (.invokevirtual 86, 3) := by decide +kernel
theorem dX4_readLength_26 : decode cX4_readLength 26 = .ok (.istore_n 1, 1) := by decide +kernel
theorem dX4_readLength_27 : decode cX4_readLength 27 = .ok (.aload_n 0, 1) := by decide +kernel
theorem dX4_readLength_28 : decode cX4_readLength 28 = .ok (.getfield 68, 3) := by decide +kernel
theorem dX4_readLength_31 : decode cX4_readLength 31 = .ok (.ifCond .ne 8, 3) := by decide +kernel
theorem dX4_readLength_34 : decode cX4_readLength 34 = .ok (.aload_n 0, 1) := by decide +kernel
theorem dX4_readLength_35 : decode cX4_readLength 35 = .ok (.iload_n 1, 1) := by decide +kernel
theorem dX4_readLength_36 : decode cX4_readLength 36 = .ok (.putfield 83, 3) := by decide +kernel
theorem dX4_readLength_39 : decode cX4_readLength 39 = .ok (.return_, 1) := by decide +kernel
theorem dX4_writeItem_0 : decode cX4_writeItem 0 = .ok (.iload_n 1, 1) := by decide +kernel
theorem dX4_writeItem_1 : decode cX4_writeItem 1 = .ok (.ifCond .eq 10, 3) := by decide +kernel
theorem dX4_writeItem_4 : decode cX4_writeItem 4 = .ok (.aload_n 0, 1) := by decide +kernel
theorem dX4_writeItem_5 : decode cX4_writeItem 5 = .ok (.getfield 83, 3) := by decide +kernel
theorem dX4_writeItem_8 : decode cX4_writeItem 8 = .ok (.goto 10, 3) := by decide +kernel
theorem dX4_writeItem_11 : decode cX4_writeItem 11 = .ok (.aload_n 0, 1) := by decide +kernel
theorem dX4_writeItem_12 : decode cX4_writeItem 12 = .ok (.getfield 94, 3) := by decide +kernel
theorem dX4_writeItem_15 : decode cX4_writeItem 15 = .ok (.invokestatic 116, 3) := by decide +kernel
theorem dX4_writeItem_18 : decode cX4_writeItem 18 = .ok (.istore_n 3, 1) := by decide +kernel
theorem dX4_writeItem_19 : decode cX4_writeItem 19 = .ok (.aload_n 0, 1) := by decide +kernel
theorem dX4_writeItem_20 : decode cX4_writeItem 20 = .ok (.getfield 12, 3) := by decide +kernel
theorem dX4_writeItem_23 : decode cX4_writeItem 23 = .ok (.getfield 125, 3) := by decide +kernel
theorem dX4_writeItem_26 : decode cX4_writeItem 26 = .ok (.iload_n 3, 1) := by decide +kernel
theorem dX4_writeItem_27 : decode cX4_writeItem 27 = .ok (.iadd, 1) := by decide +kernel
theorem dX4_writeItem_28 : decode cX4_writeItem 28 = .ok (.bipush 100, 2) := by decide +kernel
theorem dX4_writeItem_30 : decode cX4_writeItem 30 = .ok (.if_icmp .le 10, 3) := by decide +kernel
theorem dX4_writeItem_33 : decode cX4_writeItem 33 = .ok (.aload_n 0, 1) := by decide +kernel
theorem dX4_writeItem_34 : decode cX4_writeItem 34 = .ok (.iconst 4, 1) := by decide +kernel
theorem dX4_writeItem_35 : decode cX4_writeItem 35 = .ok (.iload_n 2, 1) := by decide +kernel
theorem dX4_writeItem_36 : decode cX4_writeItem 36 = .ok (.invokevirtual 64, 3) := by decide +kernel
theorem dX4_writeItem_39 : decode cX4_writeItem 39 = .ok (.return_, 1) := by decide +kernel
theorem dX4_writeItem_40 : decode cX4_writeItem 40 = .ok (.iload_n 1, 1) := by decide +kernel
theorem dX4_writeItem_41 : decode cX4_writeItem 41 = .ok (.ifCond .eq 56, 3) := by decide +kernel
theorem dX4_writeItem_44 : decode cX4_writeItem 44 = .ok (.iconst 0, 1) := by decide +kernel
theorem dX4_writeItem_45 : decode cX4_writeItem 45 = .ok (.istore 4, 2) := by decide +kernel
theorem dX4_writeItem_47 : decode cX4_writeItem 47 = .ok (.iload 4, 2) := by decide +kernel
theorem dX4_writeItem_49 : decode cX4_writeItem 49 = .ok (.aload_n 0, 1) := by decide +kernel
theorem dX4_writeItem_50 : decode cX4_writeItem 50 = .ok (.getfield 83, 3) := by decide +kernel
theorem dX4_writeItem_53 : decode cX4_writeItem 53 = .ok (.if_icmp .ge 41, 3) := by decide +kernel
theorem dX4_writeItem_56 : decode cX4_writeItem 56 = .ok (.aload_n 0, 1) := by decide +kernel
theorem dX4_writeItem_57 : decode cX4_writeItem 57 = .ok (.getfield 12, 3) := by decide +kernel
theorem dX4_writeItem_60 : decode cX4_writeItem 60 = .ok (.aload_n 0, 1) := by decide +kernel
theorem dX4_writeItem_61 : decode cX4_writeItem 61 = .ok (.getfield 71, 3) := by decide +kernel
theorem dX4_writeItem_64 : decode cX4_writeItem 64 = .ok (.iload 4, 2) := by decide +kernel
theorem dX4_writeItem_66 : decode cX4_writeItem 66 = .ok (.iadd, 1) := by decide +kernel
theorem dX4_writeItem_67 : decode cX4_writeItem 67 = .ok (.iload 4, 2) := by decide +kernel
theorem dX4_writeItem_69 : decode cX4_writeItem 69 = .ok (.iconst 1, 1) := by decide +kernel
theorem dX4_writeItem_70 : decode cX4_writeItem 70 = .ok (.iand, 1) := by decide +kernel
theorem dX4_writeItem_71 : decode cX4_writeItem 71 = .ok (.ifCond .ne 10, 3) := by decide +kernel
theorem dX4_writeItem_74 : decode cX4_writeItem 74 = .ok (.aload_n 0, 1) := by decide +kernel
theorem dX4_writeItem_75 : decode cX4_writeItem 75 = .ok (.getfield 103, 3) := by decide +kernel
theorem dX4_writeItem_78 : decode cX4_writeItem 78 = .ok (.goto 7, 3) := by decide +kernel
theorem dX4_writeItem_81 : decode cX4_writeItem 81 = .ok (.aload_n 0, 1) := by decide +kernel
theorem dX4_writeItem_82 : decode cX4_writeItem 82 = .ok (.getfield 106, 3) := by decide +kernel
theorem dX4_writeItem_85 : decode cX4_writeItem 85 = .ok (.invokevirtual 128, 3) := by decide +kernel
theorem dX4_writeItem_88 : decode cX4_writeItem 88 = .ok (.iinc 4 1, 3) := by decide +kernel
theorem dX4_writeItem_91 : decode cX4_writeItem 91 = .ok (.goto (-44), 3) := by decide +kernel
theorem dX4_writeItem_94 : decode cX4_writeItem 94 = .ok (.goto 44, 3) := by decide +kernel
theorem dX4_writeItem_97 : decode cX4_writeItem 97 = .ok (.iconst 0, 1) := by decide +kernel
theorem dX4_writeItem_98 : decode cX4_writeItem 98 = .ok (.istore 4, 2) := by decide +kernel
theorem dX4_writeItem_100 : decode cX4_writeItem 100 = .ok (.iload 4, 2) := by decide +kernel
theorem dX4_writeItem_102 : decode cX4_writeItem 102 = .ok (.bipush 24, 2) := by decide +kernel
theorem dX4_writeItem_104 : decode cX4_writeItem 104 = .ok (.if_icmp .ge 34, 3) := by decide +kernel
theorem dX4_writeItem_107 : decode cX4_writeItem 107 = .ok (.aload_n 0, 1) := by decide +kernel
theorem dX4_writeItem_108 : decode cX4_writeItem 108 = .ok (.getfield 94, 3) := by decide +kernel
theorem dX4_writeItem_111 : decode cX4_writeItem 111 = .ok (.iload 4, 2) := by decide +kernel
theorem dX4_writeItem_113 : decode cX4_writeItem 113 = .ok (.ishr, 1) := by decide +kernel
theorem dX4_writeItem_114 : decode cX4_writeItem 114 = .ok (.iconst 1, 1) := by decide +kernel
theorem dX4_writeItem_115 : decode cX4_writeItem 115 = .ok (.iand, 1) := by decide +kernel
theorem dX4_writeItem_116 : decode cX4_writeItem 116 = .ok (.ifCond .eq 16, 3) := by decide +kernel
theorem dX4_writeItem_119 : decode cX4_writeItem 119 = .ok (.aload_n 0, 1) := by decide +kernel
theorem dX4_writeItem_120 : decode cX4_writeItem 120 = .ok (.getfield 12, 3) := by decide +kernel
theorem dX4_writeItem_123 : decode cX4_writeItem 123 = .ok (.aload_n 0, 1) := by decide +kernel
theorem dX4_writeItem_124 : decode cX4_writeItem 124 = .ok (.getfield 71, 3) := by decide +kernel
theorem dX4_writeItem_127 : decode cX4_writeItem 127 = .ok (.iload 4, 2) := by decide +kernel
theorem dX4_writeItem_129 : decode cX4_writeItem 129 = .ok (.invokevirtual 128, 3) := by decide +kernel
theorem dX4_writeItem_132 : decode cX4_writeItem 132 = .ok (.iinc 4 1, 3) := by decide +kernel
theorem dX4_writeItem_135 : decode cX4_writeItem 135 = .ok (.goto (-35), 3) := by decide +kernel
theorem dX4_writeItem_138 : decode cX4_writeItem 138 = .ok (.aload_n 0, 1) := by decide +kernel
theorem dX4_writeItem_139 : decode cX4_writeItem 139 = .ok (.dup, 1) := by decide +kernel
theorem dX4_writeItem_140 : decode cX4_writeItem 140 = .ok (.getfield 71, 3) := by decide +kernel
theorem dX4_writeItem_143 : decode cX4_writeItem 143 = .ok (.aload_n 0, 1) := by decide +kernel
theorem dX4_writeItem_144 : decode cX4_writeItem 144 = .ok (.getfield 83, 3) := by decide +kernel
theorem dX4_writeItem_147 : decode cX4_writeItem 147 = .ok (.iadd, 1) := by decide +kernel
theorem dX4_writeItem_148 : decode cX4_writeItem 148 = .ok (.putfield 71, 3) := by decide +kernel
theorem dX4_writeItem_151 : decode cX4_writeItem 151 = .ok (.return_, 1) := by decide +kernel
theorem dX4_readNumber_0 : decode cX4_readNumber 0 = .ok (.aload_n 0, 1) := by decide +kernel
theorem dX4_readNumber_1 : decode cX4_readNumber 1 = .ok (.invokevirtual 39, 3) := by decide +kernel
theorem dX4_readNumber_4 : decode cX4_readNumber 4 = .ok (.istore_n 3, 1) := by decide +kernel
theorem dX4_readNumber_5 : decode cX4_readNumber 5 = .ok (.aload_n 0, 1) := by decide +kernel
theorem dX4_readNumber_6 : decode cX4_readNumber 6 = .ok (.aload_n 0, 1) := by decide +kernel
theorem dX4_readNumber_7 : decode cX4_readNumber 7 = .ok (.getfield 61, 3) := by decide +kernel
theorem dX4_readNumber_10 : decode cX4_readNumber 10 = .ok (.putfield 122, 3) := by decide +kernel
theorem dX4_readNumber_13 : decode cX4_readNumber 13 = .ok (.iconst 0, 1) := by decide +kernel
theorem dX4_readNumber_14 : decode cX4_readNumber 14 = .ok (.istore 4, 2) := by decide +kernel
theorem dX4_readNumber_16 : decode cX4_readNumber 16 = .ok (.iconst 0, 1) := by decide +kernel
theorem dX4_readNumber_17 : decode cX4_readNumber 17 = .ok (.istore 5, 2) := by decide +kernel
theorem dX4_readNumber_19 : decode cX4_readNumber 19 = .ok (.iload 5, 2) := by decide +kernel
theorem dX4_readNumber_21 : decode cX4_readNumber 21 = .ok (.iconst 3, 1) := by decide +kernel
theorem dX4_readNumber_22 : decode cX4_readNumber 22 = .ok (.if_icmp .ge 43, 3) := by decide +kernel
theorem dX4_readNumber_25 : decode cX4_readNumber 25 = .ok (.iload_n 3, 1) := by decide +kernel
theorem dX4_readNumber_26 : decode cX4_readNumber 26 = .ok (.invokestatic 43, 3) := by decide +kernel
theorem dX4_readNumber_29 : decode cX4_readNumber 29 = .ok (.ifCond .eq 36, 3) := by decide +kernel
theorem dX4_readNumber_32 : decode cX4_readNumber 32 = .ok (.iload 4, 2) := by decide +kernel
theorem dX4_readNumber_34 : decode cX4_readNumber 34 = .ok (.bipush 10, 2) := by decide +kernel
theorem dX4_readNumber_36 : decode cX4_readNumber 36 = .ok (.imul, 1) := by decide +kernel
theorem dX4_readNumber_37 : decode cX4_readNumber 37 = .ok (.iload_n 3, 1) := by decide +kernel
theorem dX4_readNumber_38 : decode cX4_readNumber 38 = .ok (.iadd, 1) := by decide +kernel
theorem dX4_readNumber_39 : decode cX4_readNumber 39 = .ok (.bipush 48, 2) := by decide +kernel
theorem dX4_readNumber_41 : decode cX4_readNumber 41 = .ok (.isub, 1) := by decide +kernel
theorem dX4_readNumber_42 : decode cX4_readNumber 42 = .ok (.istore 4, 2) := by decide +kernel
theorem dX4_readNumber_44 : decode cX4_readNumber 44 = .ok (.iinc 5 1, 3) := by decide +kernel
theorem dX4_readNumber_47 : decode cX4_readNumber 47 = .ok (.aload_n 0, 1) := by decide +kernel
theorem dX4_readNumber_48 : decode cX4_readNumber 48 = .ok (.dup, 1) := by decide +kernel
theorem dX4_readNumber_49 : decode cX4_readNumber 49 = .ok (.getfield 61, 3) := by decide +kernel
theorem dX4_readNumber_52 : decode cX4_readNumber 52 = .ok (.iconst 1, 1) := by decide +kernel
theorem dX4_readNumber_53 : decode cX4_readNumber 53 = .ok (.iadd, 1) := by decide +kernel
theorem dX4_readNumber_54 : decode cX4_readNumber 54 = .ok (.putfield 61, 3) := by decide +kernel
theorem dX4_readNumber_57 : decode cX4_readNumber 57 = .ok (.aload_n 0, 1) := by decide +kernel
theorem dX4_readNumber_58 : decode cX4_readNumber 58 = .ok (.invokevirtual 131, 3) := by decide +kernel
theorem dX4_readNumber_61 : decode cX4_readNumber 61 = .ok (.istore_n 3, 1) := by decide +kernel
theorem dX4_readNumber_62 : decode cX4_readNumber 62 = .ok (.goto (-43), 3) := by decide +kernel
theorem dX4_readNumber_65 : decode cX4_readNumber 65 = .ok (.iload 5, 2) := by decide +kernel
theorem dX4_readNumber_67 : decode cX4_readNumber 67 = .ok (.ifCond .eq 10, 3) := by decide +kernel
theorem dX4_readNumber_70 : decode cX4_readNumber 70 = .ok (.iload_n 3, 1) := by decide +kernel
theorem dX4_readNumber_71 : decode cX4_readNumber 71 = .ok (.invokestatic 43, 3) := by decide +kernel
theorem dX4_readNumber_74 : decode cX4_readNumber 74 = .ok (.ifCond .eq 15, 3) := by decide +kernel
theorem dX4_readNumber_77 : decode cX4_readNumber 77 = .ok (.aload_n 0, 1) := by decide +kernel
theorem dX4_readNumber_78 : decode cX4_readNumber 78 = .ok (.iconst 1, 1) := by decide +kernel
theorem dX4_readNumber_79 : decode cX4_readNumber 79 = .ok (.aload_n 0, 1) := by decide +kernel
theorem dX4_readNumber_80 : decode cX4_readNumber 80 = .ok (.getfield 61, 3) := by decide +kernel
theorem dX4_readNumber_83 : decode cX4_readNumber 83 = .ok (.invokevirtual 64, 3) := by decide +kernel
theorem dX4_readNumber_86 : decode cX4_readNumber 86 = .ok (.goto 24, 3) := by decide +kernel
theorem dX4_readNumber_89 : decode cX4_readNumber 89 = .ok (.iload 4, 2) := by decide +kernel
theorem dX4_readNumber_91 : decode cX4_readNumber 91 = .ok (.iload_n 1, 1) := by decide +kernel
theorem dX4_readNumber_92 : decode cX4_readNumber 92 = .ok (.if_icmp .lt 9, 3) := by decide +kernel
theorem dX4_readNumber_95 : decode cX4_readNumber 95 = .ok (.iload 4, 2) := by decide +kernel
theorem dX4_readNumber_97 : decode cX4_readNumber 97 = .ok (.iload_n 2, 1) := by decide +kernel
theorem dX4_readNumber_98 : decode cX4_readNumber 98 = .ok (.if_icmp .le 12, 3) := by decide +kernel
theorem dX4_readNumber_101 : decode cX4_readNumber 101 = .ok (.aload_n 0, 1) := by decide +kernel
theorem dX4_readNumber_102 : decode cX4_readNumber 102 = .ok (.iconst 2, 1) := by decide +kernel
theorem dX4_readNumber_103 : decode cX4_readNumber 103 = .ok (.aload_n 0, 1) := by decide +kernel
theorem dX4_readNumber_104 : decode cX4_readNumber 104 = .ok (.getfield 122, 3) := by decide +kernel
theorem dX4_readNumber_107 : decode cX4_readNumber 107 = .ok (.invokevirtual 64, 3) := by decide +kernel
theorem dX4_readNumber_110 : decode cX4_readNumber 110 = .ok (.iload 4, 2) := by decide +kernel
theorem dX4_readNumber_112 : decode cX4_readNumber 112 = .ok (.ireturn, 1) := by decide +kernel
theorem dX4_expect_0 : decode cX4_expect 0 = .ok (.aload_n 0, 1) := by decide +kernel
theorem dX4_expect_1 : decode cX4_expect 1 = .ok (.invokevirtual 39, 3) := by decide +kernel
theorem dX4_expect_4 : decode cX4_expect 4 = .ok (.iload_n 1, 1) := by decide +kernel
theorem dX4_expect_5 : decode cX4_expect 5 = .ok (.if_icmp .ne 16, 3) := by decide +kernel
theorem dX4_expect_8 : decode cX4_expect 8 = .ok (.aload_n 0, 1) := by decide +kernel
theorem dX4_expect_9 : decode cX4_expect 9 = .ok (.dup, 1) := by decide +kernel
theorem dX4_expect_10 : decode cX4_expect 10 = .ok (.getfield 61, 3) := by decide +kernel
theorem dX4_expect_13 : decode cX4_expect 13 = .ok (.iconst 1, 1) := by decide +kernel
theorem dX4_expect_14 : decode cX4_expect 14 = .ok (.iadd, 1) := by decide +kernel
theorem dX4_expect_15 : decode cX4_expect 15 = .ok (.putfield 61, 3) := by decide +kernel
theorem dX4_expect_18 : decode cX4_expect 18 = .ok (.goto 12, 3) := by decide +kernel
theorem dX4_expect_21 : decode cX4_expect 21 = .ok (.aload_n 0, 1) := by decide +kernel
theorem dX4_expect_22 : decode cX4_expect 22 = .ok (.iconst 1, 1) := by decide +kernel
theorem dX4_expect_23 : decode cX4_expect 23 = .ok (.aload_n 0, 1) := by decide +kernel
theorem dX4_expect_24 : decode cX4_expect 24 = .ok (.getfield 61, 3) := by decide +kernel
theorem dX4_expect_27 : decode cX4_expect 27 = .ok (.invokevirtual 64, 3) := by decide +kernel
theorem dX4_expect_30 : decode cX4_expect 30 = .ok (.return_, 1) := by decide +kernel
theorem dX4_fail_0 : decode cX4_fail 0 = .ok (.aload_n 0, 1) := by decide +kernel
theorem dX4_fail_1 : decode cX4_fail 1 = .ok (.getfield 68, 3) := by decide +kernel
theorem dX4_fail_4 : decode cX4_fail 4 = .ok (.ifCond .ne 13, 3) := by decide +kernel
theorem dX4_fail_7 : decode cX4_fail 7 = .ok (.aload_n 0, 1) := by decide +kernel
theorem dX4_fail_8 : decode cX4_fail 8 = .ok (.iload_n 1, 1) := by decide +kernel
theorem dX4_fail_9 : decode cX4_fail 9 = .ok (.putfield 68, 3) := by decide +kernel
theorem dX4_fail_12 : decode cX4_fail 12 = .ok (.aload_n 0, 1) := by decide +kernel
theorem dX4_fail_13 : decode cX4_fail 13 = .ok (.iload_n 2, 1) := by decide +kernel
theorem dX4_fail_14 : decode cX4_fail 14 = .ok (.putfield 80, 3) := by decide +kernel
theorem dX4_fail_17 : decode cX4_fail 17 = .ok (.return_, 1) := by decide +kernel
theorem dX4_nextSign_0 : decode cX4_nextSign 0 = .ok (.aload_n 0, 1) := by decide +kernel
theorem dX4_nextSign_1 : decode cX4_nextSign 1 = .ok (.invokevirtual 131, 3) := by decide +kernel
theorem dX4_nextSign_4 : decode cX4_nextSign 4 = .ok (.istore_n 1, 1) := by decide +kernel
theorem dX4_nextSign_5 : decode cX4_nextSign 5 = .ok (.aload_n 0, 1) := by decide +kernel
theorem dX4_nextSign_6 : decode cX4_nextSign 6 = .ok (.getfield 61, 3) := by decide +kernel
theorem dX4_nextSign_9 : decode cX4_nextSign 9 = .ok (.aload_n 0, 1) := by decide +kernel
theorem dX4_nextSign_10 : decode cX4_nextSign 10 = .ok (.getfield 31, 3) := by decide +kernel
theorem dX4_nextSign_13 : decode cX4_nextSign 13 = .ok (.getfield 134, 3) := by decide +kernel
theorem dX4_nextSign_16 : decode cX4_nextSign 16 = .ok (.if_icmp .ge 33, 3) := by decide +kernel
theorem dX4_nextSign_19 : decode cX4_nextSign 19 = .ok (.iload_n 1, 1) := by decide +kernel
theorem dX4_nextSign_20 : decode cX4_nextSign 20 = .ok (.bipush 32, 2) := by decide +kernel
theorem dX4_nextSign_22 : decode cX4_nextSign 22 = .ok (.if_icmp .eq 9, 3) := by decide +kernel
theorem dX4_nextSign_25 : decode cX4_nextSign 25 = .ok (.iload_n 1, 1) := by decide +kernel
theorem dX4_nextSign_26 : decode cX4_nextSign 26 = .ok (.bipush 10, 2) := by decide +kernel
theorem dX4_nextSign_28 : decode cX4_nextSign 28 = .ok (.if_icmp .ne 21, 3) := by decide +kernel
theorem dX4_nextSign_31 : decode cX4_nextSign 31 = .ok (.aload_n 0, 1) := by decide +kernel
theorem dX4_nextSign_32 : decode cX4_nextSign 32 = .ok (.dup, 1) := by decide +kernel
theorem dX4_nextSign_33 : decode cX4_nextSign 33 = .ok (.getfield 61, 3) := by decide +kernel
theorem dX4_nextSign_36 : decode cX4_nextSign 36 = .ok (.iconst 1, 1) := by decide +kernel
theorem dX4_nextSign_37 : decode cX4_nextSign 37 = .ok (.iadd, 1) := by decide +kernel
theorem dX4_nextSign_38 : decode cX4_nextSign 38 = .ok (.putfield 61, 3) := by decide +kernel
theorem dX4_nextSign_41 : decode cX4_nextSign 41 = .ok (.aload_n 0, 1) := by decide +kernel
theorem dX4_nextSign_42 : decode cX4_nextSign 42 = .ok (.invokevirtual 131, 3) := by decide +kernel
theorem dX4_nextSign_45 : decode cX4_nextSign 45 = .ok (.istore_n 1, 1) := by decide +kernel
theorem dX4_nextSign_46 : decode cX4_nextSign 46 = .ok (.goto (-41), 3) := by decide +kernel
theorem dX4_nextSign_49 : decode cX4_nextSign 49 = .ok (.iload_n 1, 1) := by decide +kernel
theorem dX4_nextSign_50 : decode cX4_nextSign 50 = .ok (.ireturn, 1) := by decide +kernel
theorem dX4_signHere_0 : decode cX4_signHere 0 = .ok (.aload_n 0, 1) := by decide +kernel
theorem dX4_signHere_1 : decode cX4_signHere 1 = .ok (.getfield 61, 3) := by decide +kernel
theorem dX4_signHere_4 : decode cX4_signHere 4 = .ok (.ifCond .lt 27, 3) := by decide +kernel
theorem dX4_signHere_7 : decode cX4_signHere 7 = .ok (.aload_n 0, 1) := by decide +kernel
theorem dX4_signHere_8 : decode cX4_signHere 8 = .ok (.getfield 61, 3) := by decide +kernel
theorem dX4_signHere_11 : decode cX4_signHere 11 = .ok (.aload_n 0, 1) := by decide +kernel
theorem dX4_signHere_12 : decode cX4_signHere 12 = .ok (.getfield 31, 3) := by decide +kernel
theorem dX4_signHere_15 : decode cX4_signHere 15 = .ok (.getfield 134, 3) := by decide +kernel
theorem dX4_signHere_18 : decode cX4_signHere 18 = .ok (.if_icmp .ge 13, 3) := by decide +kernel
theorem dX4_signHere_21 : decode cX4_signHere 21 = .ok (.aload_n 0, 1) := by decide +kernel
theorem dX4_signHere_22 : decode cX4_signHere 22 = .ok (.getfield 61, 3) := by decide +kernel
theorem dX4_signHere_25 : decode cX4_signHere 25 = .ok (.sipush 1000, 3) := by decide +kernel
theorem dX4_signHere_28 : decode cX4_signHere 28 = .ok (.if_icmp .lt 5, 3) := by decide +kernel
theorem dX4_signHere_31 : decode cX4_signHere 31 = .ok (.iconst (-1), 1) := by decide +kernel
theorem dX4_signHere_32 : decode cX4_signHere 32 = .ok (.ireturn, 1) := by decide +kernel
theorem dX4_signHere_33 : decode cX4_signHere 33 = .ok (.aload_n 0, 1) := by decide +kernel
theorem dX4_signHere_34 : decode cX4_signHere 34 = .ok (.getfield 31, 3) := by decide +kernel
theorem dX4_signHere_37 : decode cX4_signHere 37 = .ok (.getfield 137, 3) := by decide +kernel
theorem dX4_signHere_40 : decode cX4_signHere 40 = .ok (.aload_n 0, 1) := by decide +kernel
theorem dX4_signHere_41 : decode cX4_signHere 41 = .ok (.getfield 61, 3) := by decide +kernel
theorem dX4_signHere_44 : decode cX4_signHere 44 = .ok (.baload, 1) := by decide +kernel
theorem dX4_signHere_45 : decode cX4_signHere 45 = .ok (.sipush 255, 3) := by decide +kernel
theorem dX4_signHere_48 : decode cX4_signHere 48 = .ok (.iand, 1) := by decide +kernel
theorem dX4_signHere_49 : decode cX4_signHere 49 = .ok (.ireturn, 1) := by decide +kernel
theorem dX4_isDigit_0 : decode cX4_isDigit 0 = .ok (.iload_n 0, 1) := by decide +kernel
theorem dX4_isDigit_1 : decode cX4_isDigit 1 = .ok (.bipush 48, 2) := by decide +kernel
theorem dX4_isDigit_3 : decode cX4_isDigit 3 = .ok (.if_icmp .lt 13, 3) := by decide +kernel
theorem dX4_isDigit_6 : decode cX4_isDigit 6 = .ok (.iload_n 0, 1) := by decide +kernel
theorem dX4_isDigit_7 : decode cX4_isDigit 7 = .ok (.bipush 57, 2) := by decide +kernel
theorem dX4_isDigit_9 : decode cX4_isDigit 9 = .ok (.if_icmp .gt 7, 3) := by decide +kernel
theorem dX4_isDigit_12 : decode cX4_isDigit 12 = .ok (.iconst 1, 1) := by decide +kernel
theorem dX4_isDigit_13 : decode cX4_isDigit 13 = .ok (.goto 4, 3) := by decide +kernel
theorem dX4_isDigit_16 : decode cX4_isDigit 16 = .ok (.iconst 0, 1) := by decide +kernel
theorem dX4_isDigit_17 : decode cX4_isDigit 17 = .ok (.ireturn, 1) := by decide +kernel
theorem dX5_init_0 : decode cX5_init 0 = .ok (.aload_n 0, 1) := by decide +kernel
theorem dX5_init_1 : decode cX5_init 1 = .ok (.invokespecial 3, 3) := by decide +kernel
theorem dX5_init_4 : decode cX5_init 4 = .ok (.aload_n 0, 1) := by decide +kernel
theorem dX5_init_5 : decode cX5_init 5 = .ok (.bipush 100, 2) := by decide +kernel
theorem dX5_init_7 : decode cX5_init 7 = .ok (.newarray .int, 2) := by decide +kernel
theorem dX5_init_9 : decode cX5_init 9 = .ok (.putfield 9, 3) := by decide +kernel
theorem dX5_init_12 : decode cX5_init 12 = .ok (.aload_n 0, 1) := by decide +kernel
theorem dX5_init_13 : decode cX5_init 13 = .ok (.bipush 100, 2) := by decide +kernel
theorem dX5_init_15 : decode cX5_init 15 = .ok (.newarray .int, 2) := by decide +kernel
theorem dX5_init_17 : decode cX5_init 17 = .ok (.putfield 15, 3) := by decide +kernel
theorem dX5_init_20 : decode cX5_init 20 = .ok (.aload_n 0, 1) := by decide +kernel
theorem dX5_init_21 : decode cX5_init 21 = .ok (.iconst 0, 1) := by decide +kernel
theorem dX5_init_22 : decode cX5_init 22 = .ok (.putfield 18, 3) := by decide +kernel
theorem dX5_init_25 : decode cX5_init 25 = .ok (.aload_n 0, 1) := by decide +kernel
theorem dX5_init_26 : decode cX5_init 26 = .ok (.iconst 0, 1) := by decide +kernel
theorem dX5_init_27 : decode cX5_init 27 = .ok (.putfield 22, 3) := by decide +kernel
theorem dX5_init_30 : decode cX5_init 30 = .ok (.return_, 1) := by decide +kernel
theorem dX5_has_0 : decode cX5_has 0 = .ok (.iload_n 1, 1) := by decide +kernel
theorem dX5_has_1 : decode cX5_has 1 = .ok (.ifCond .lt 15, 3) := by decide +kernel
theorem dX5_has_4 : decode cX5_has 4 = .ok (.iload_n 1, 1) := by decide +kernel
theorem dX5_has_5 : decode cX5_has 5 = .ok (.aload_n 0, 1) := by decide +kernel
theorem dX5_has_6 : decode cX5_has 6 = .ok (.getfield 18, 3) := by decide +kernel
theorem dX5_has_9 : decode cX5_has 9 = .ok (.if_icmp .ge 7, 3) := by decide +kernel
theorem dX5_has_12 : decode cX5_has 12 = .ok (.iconst 1, 1) := by decide +kernel
theorem dX5_has_13 : decode cX5_has 13 = .ok (.goto 4, 3) := by decide +kernel
theorem dX5_has_16 : decode cX5_has 16 = .ok (.iconst 0, 1) := by decide +kernel
theorem dX5_has_17 : decode cX5_has 17 = .ok (.ireturn, 1) := by decide +kernel
theorem dX5_clear_0 : decode cX5_clear 0 = .ok (.aload_n 0, 1) := by decide +kernel
theorem dX5_clear_1 : decode cX5_clear 1 = .ok (.iconst 0, 1) := by decide +kernel
theorem dX5_clear_2 : decode cX5_clear 2 = .ok (.putfield 18, 3) := by decide +kernel
theorem dX5_clear_5 : decode cX5_clear 5 = .ok (.aload_n 0, 1) := by decide +kernel
theorem dX5_clear_6 : decode cX5_clear 6 = .ok (.iconst 0, 1) := by decide +kernel
theorem dX5_clear_7 : decode cX5_clear 7 = .ok (.putfield 22, 3) := by decide +kernel
theorem dX5_clear_10 : decode cX5_clear 10 = .ok (.return_, 1) := by decide +kernel
theorem dX5_addStrike_0 : decode cX5_addStrike 0 = .ok (.aload_n 0, 1) := by decide +kernel
theorem dX5_addStrike_1 : decode cX5_addStrike 1 = .ok (.getfield 18, 3) := by decide +kernel
theorem dX5_addStrike_4 : decode cX5_addStrike 4 = .ok (.bipush 100, 2) := by decide +kernel
theorem dX5_addStrike_6 : decode cX5_addStrike 6 = .ok (.if_icmp .ge 33, 3) := by decide +kernel
theorem dX5_addStrike_9 : decode cX5_addStrike 9 = .ok (.aload_n 0, 1) := by decide +kernel
theorem dX5_addStrike_10 : decode cX5_addStrike 10 = .ok (.getfield 9, 3) := by decide +kernel
theorem dX5_addStrike_13 : decode cX5_addStrike 13 = .ok (.aload_n 0, 1) := by decide +kernel
theorem dX5_addStrike_14 : decode cX5_addStrike 14 = .ok (.getfield 18, 3) := by decide +kernel
theorem dX5_addStrike_17 : decode cX5_addStrike 17 = .ok (.iload_n 1, 1) := by decide +kernel
theorem dX5_addStrike_18 : decode cX5_addStrike 18 = .ok (.iastore, 1) := by decide +kernel
theorem dX5_addStrike_19 : decode cX5_addStrike 19 = .ok (.aload_n 0, 1) := by decide +kernel
theorem dX5_addStrike_20 : decode cX5_addStrike 20 = .ok (.getfield 15, 3) := by decide +kernel
theorem dX5_addStrike_23 : decode cX5_addStrike 23 = .ok (.aload_n 0, 1) := by decide +kernel
theorem dX5_addStrike_24 : decode cX5_addStrike 24 = .ok (.getfield 18, 3) := by decide +kernel
theorem dX5_addStrike_27 : decode cX5_addStrike 27 = .ok (.iload_n 2, 1) := by decide +kernel
theorem dX5_addStrike_28 : decode cX5_addStrike 28 = .ok (.iastore, 1) := by decide +kernel
theorem dX5_addStrike_29 : decode cX5_addStrike 29 = .ok (.aload_n 0, 1) := by decide +kernel
theorem dX5_addStrike_30 : decode cX5_addStrike 30 = .ok (.dup, 1) := by decide +kernel
theorem dX5_addStrike_31 : decode cX5_addStrike 31 = .ok (.getfield 18, 3) := by decide +kernel
theorem dX5_addStrike_34 : decode cX5_addStrike 34 = .ok (.iconst 1, 1) := by decide +kernel
theorem dX5_addStrike_35 : decode cX5_addStrike 35 = .ok (.iadd, 1) := by decide +kernel
theorem dX5_addStrike_36 : decode cX5_addStrike 36 = .ok (.putfield 18, 3) := by decide +kernel
theorem dX5_addStrike_39 : decode cX5_addStrike 39 = .ok (.return_, 1) := by decide +kernel
theorem dX5_bellsBetween_0 : decode cX5_bellsBetween 0 = .ok (.aload_n 0, 1) := by decide +kernel
theorem dX5_bellsBetween_1 : decode cX5_bellsBetween 1 = .ok (.getfield 15, 3) := by decide +kernel
theorem dX5_bellsBetween_4 : decode cX5_bellsBetween 4 = .ok (.iload_n 2, 1) := by decide +kernel
theorem dX5_bellsBetween_5 : decode cX5_bellsBetween 5 = .ok (.iaload, 1) := by decide +kernel
theorem dX5_bellsBetween_6 : decode cX5_bellsBetween 6 = .ok (.aload_n 0, 1) := by decide +kernel
theorem dX5_bellsBetween_7 : decode cX5_bellsBetween 7 = .ok (.getfield 15, 3) := by decide +kernel
theorem dX5_bellsBetween_10 : decode cX5_bellsBetween 10 = .ok (.iload_n 1, 1) := by decide +kernel
theorem dX5_bellsBetween_11 : decode cX5_bellsBetween 11 = .ok (.iaload, 1) := by decide +kernel
theorem dX5_bellsBetween_12 : decode cX5_bellsBetween 12 = .ok (.isub, 1) := by decide +kernel
theorem dX5_bellsBetween_13 : decode cX5_bellsBetween 13 = .ok (.invokestatic 25, 3) := by decide +kernel
theorem dX5_bellsBetween_16 : decode cX5_bellsBetween 16 = .ok (.ireturn, 1) := by decide +kernel
theorem dX5_copyFrom_0 : decode cX5_copyFrom 0 = .ok (.aload_n 1, 1) := by decide +kernel
theorem dX5_copyFrom_1 : decode cX5_copyFrom 1 = .ok (.getfield 9, 3) := by decide +kernel
theorem dX5_copyFrom_4 : decode cX5_copyFrom 4 = .ok (.iconst 0, 1) := by decide +kernel
theorem dX5_copyFrom_5 : decode cX5_copyFrom 5 = .ok (.aload_n 0, 1) := by decide +kernel
theorem dX5_copyFrom_6 : decode cX5_copyFrom 6 = .ok (.getfield 9, 3) := by decide +kernel
theorem dX5_copyFrom_9 : decode cX5_copyFrom 9 = .ok (.iconst 0, 1) := by decide +kernel
theorem dX5_copyFrom_10 : decode cX5_copyFrom 10 = .ok (.bipush 100, 2) := by decide +kernel
theorem dX5_copyFrom_12 : decode cX5_copyFrom 12 = .ok (.invokestatic 31, 3) := by decide +kernel
theorem dX5_copyFrom_15 : decode cX5_copyFrom 15 = .ok (.aload_n 1, 1) := by decide +kernel
theorem dX5_copyFrom_16 : decode cX5_copyFrom 16 = .ok (.getfield 15, 3) := by decide +kernel
theorem dX5_copyFrom_19 : decode cX5_copyFrom 19 = .ok (.iconst 0, 1) := by decide +kernel
theorem dX5_copyFrom_20 : decode cX5_copyFrom 20 = .ok (.aload_n 0, 1) := by decide +kernel
theorem dX5_copyFrom_21 : decode cX5_copyFrom 21 = .ok (.getfield 15, 3) := by decide +kernel
theorem dX5_copyFrom_24 : decode cX5_copyFrom 24 = .ok (.iconst 0, 1) := by decide +kernel
theorem dX5_copyFrom_25 : decode cX5_copyFrom 25 = .ok (.bipush 100, 2) := by decide +kernel
theorem dX5_copyFrom_27 : decode cX5_copyFrom 27 = .ok (.invokestatic 31, 3) := by decide +kernel
theorem dX5_copyFrom_30 : decode cX5_copyFrom 30 = .ok (.aload_n 0, 1) := by decide +kernel
theorem dX5_copyFrom_31 : decode cX5_copyFrom 31 = .ok (.aload_n 1, 1) := by decide +kernel
theorem dX5_copyFrom_32 : decode cX5_copyFrom 32 = .ok (.getfield 18, 3) := by decide +kernel
theorem dX5_copyFrom_35 : decode cX5_copyFrom 35 = .ok (.putfield 18, 3) := by decide +kernel
theorem dX5_copyFrom_38 : decode cX5_copyFrom 38 = .ok (.aload_n 0, 1) := by decide +kernel
theorem dX5_copyFrom_39 : decode cX5_copyFrom 39 = .ok (.aload_n 1, 1) := by decide +kernel
theorem dX5_copyFrom_40 : decode cX5_copyFrom 40 = .ok (.getfield 22, 3) := by decide +kernel
theorem dX5_copyFrom_43 : decode cX5_copyFrom 43 = .ok (.putfield 22, 3) := by decide +kernel
theorem dX5_copyFrom_46 : decode cX5_copyFrom 46 = .ok (.return_, 1) := by decide +kernel
theorem dX6_init_0 : decode cX6_init 0 = .ok (.aload_n 0, 1) := by decide +kernel
theorem dX6_init_1 : decode cX6_init 1 = .ok (.invokespecial 3, 3) := by decide +kernel
theorem dX6_init_4 : decode cX6_init 4 = .ok (.aload_n 0, 1) := by decide +kernel
theorem dX6_init_5 : decode cX6_init 5 = .ok (.bipush 100, 2) := by decide +kernel
theorem dX6_init_7 : decode cX6_init 7 = .ok (.newarray .int, 2) := by decide +kernel
theorem dX6_init_9 : decode cX6_init 9 = .ok (.putfield 9, 3) := by decide +kernel
theorem dX6_init_12 : decode cX6_init 12 = .ok (.aload_n 0, 1) := by decide +kernel
theorem dX6_init_13 : decode cX6_init 13 = .ok (.iconst 2, 1) := by decide +kernel
theorem dX6_init_14 : decode cX6_init 14 = .ok (.newarray .int, 2) := by decide +kernel
theorem dX6_init_16 : decode cX6_init 16 = .ok (.putfield 15, 3) := by decide +kernel
theorem dX6_init_19 : decode cX6_init 19 = .ok (.aload_n 0, 1) := by decide +kernel
theorem dX6_init_20 : decode cX6_init 20 = .ok (.sipush 10201, 3) := by decide +kernel
theorem dX6_init_23 : decode cX6_init 23 = .ok (.newarray .int, 2) := by decide +kernel
theorem dX6_init_25 : decode cX6_init 25 = .ok (.putfield 18, 3) := by decide +kernel
theorem dX6_init_28 : decode cX6_init 28 = .ok (.aload_n 0, 1) := by decide +kernel
theorem dX6_init_29 : decode cX6_init 29 = .ok (.aload_n 1, 1) := by decide +kernel
theorem dX6_init_30 : decode cX6_init 30 = .ok (.putfield 21, 3) := by decide +kernel
theorem dX6_init_33 : decode cX6_init 33 = .ok (.return_, 1) := by decide +kernel
theorem dX6_settle_0 : decode cX6_settle 0 = .ok (.aload_n 0, 1) := by decide +kernel
theorem dX6_settle_1 : decode cX6_settle 1 = .ok (.iload_n 1, 1) := by decide +kernel
theorem dX6_settle_2 : decode cX6_settle 2 = .ok (.putfield 25, 3) := by decide +kernel
theorem dX6_settle_5 : decode cX6_settle 5 = .ok (.aload_n 0, 1) := by decide +kernel
theorem dX6_settle_6 : decode cX6_settle 6 = .ok (.iload_n 2, 1) := by decide +kernel
theorem dX6_settle_7 : decode cX6_settle 7 = .ok (.putfield 29, 3) := by decide +kernel
theorem dX6_settle_10 : decode cX6_settle 10 = .ok (.aload_n 0, 1) := by decide +kernel
theorem dX6_settle_11 : decode cX6_settle 11 = .ok (.getfield 21, 3) := by decide +kernel
theorem dX6_settle_14 : decode cX6_settle 14 = .ok (.getfield 32, 3) := by decide +kernel
theorem dX6_settle_17 : decode cX6_settle 17 = .ok (.iconst 1, 1) := by decide +kernel
theorem dX6_settle_18 : decode cX6_settle 18 = .ok (.isub, 1) := by decide +kernel
theorem dX6_settle_19 : decode cX6_settle 19 = .ok (.istore_n 3, 1) := by decide +kernel
theorem dX6_settle_20 : decode cX6_settle 20 = .ok (.iload_n 3, 1) := by decide +kernel
theorem dX6_settle_21 : decode cX6_settle 21 = .ok (.ifCond .lt 60, 3) := by decide +kernel
theorem dX6_settle_24 : decode cX6_settle 24 = .ok (.iconst (-1), 1) := by decide +kernel
theorem dX6_settle_25 : decode cX6_settle 25 = .ok (.istore 4, 2) := by decide +kernel
theorem dX6_settle_27 : decode cX6_settle 27 = .ok (.iload 4, 2) := by decide +kernel
theorem dX6_settle_29 : decode cX6_settle 29 = .ok (.iload_n 3, 1) := by decide +kernel
theorem dX6_settle_30 : decode cX6_settle 30 = .ok (.if_icmp .ge 45, 3) := by decide +kernel
theorem dX6_settle_33 : decode cX6_settle 33 = .ok (.aload_n 0, 1) := by decide +kernel
theorem dX6_settle_34 : decode cX6_settle 34 = .ok (.getfield 18, 3) := by decide +kernel
theorem dX6_settle_37 : decode cX6_settle 37 = .ok (.iload_n 3, 1) := by decide +kernel
theorem dX6_settle_38 : decode cX6_settle 38 = .ok (.iload 4, 2) := by decide +kernel
theorem dX6_settle_40 : decode cX6_settle 40 = .ok (.invokestatic 37, 3) := by decide +kernel
theorem dX6_settle_43 : decode cX6_settle 43 = .ok (.aload_n 0, 1) := by decide +kernel
theorem dX6_settle_44 : decode cX6_settle 44 = .ok (.iload_n 3, 1) := by decide +kernel
theorem dX6_settle_45 : decode cX6_settle 45 = .ok (.iload 4, 2) := by decide +kernel
theorem dX6_settle_47 : decode cX6_settle 47 = .ok (.invokevirtual 41, 3) := by decide +kernel
theorem dX6_settle_50 : decode cX6_settle 50 = .ok (.iastore, 1) := by decide +kernel
theorem dX6_settle_51 : decode cX6_settle 51 = .ok (.aload_n 0, 1) := by decide +kernel
theorem dX6_settle_52 : decode cX6_settle 52 = .ok (.getfield 18, 3) := by decide +kernel
theorem dX6_settle_55 : decode cX6_settle 55 = .ok (.iload 4, 2) := by decide +kernel
theorem dX6_settle_57 : decode cX6_settle 57 = .ok (.iload_n 3, 1) := by decide +kernel
theorem dX6_settle_58 : decode cX6_settle 58 = .ok (.invokestatic 37, 3) := by decide +kernel
theorem dX6_settle_61 : decode cX6_settle 61 = .ok (.aload_n 0, 1) := by decide +kernel
theorem dX6_settle_62 : decode cX6_settle 62 = .ok (.iload 4, 2) := by decide +kernel
theorem dX6_settle_64 : decode cX6_settle 64 = .ok (.iload_n 3, 1) := by decide +kernel
theorem dX6_settle_65 : decode cX6_settle 65 = .ok (.invokevirtual 41, 3) := by decide +kernel
theorem dX6_settle_68 : decode cX6_settle 68 = .ok (.iastore, 1) := by decide +kernel
theorem dX6_settle_69 : decode cX6_settle 69 = .ok (.iinc 4 1, 3) := by decide +kernel
theorem dX6_settle_72 : decode cX6_settle 72 = .ok (.goto (-45), 3) := by decide +kernel
theorem dX6_settle_75 : decode cX6_settle 75 = .ok (.iinc 3 (-1), 3) := by decide +kernel
theorem dX6_settle_78 : decode cX6_settle 78 = .ok (.goto (-58), 3) := by decide +kernel
end
section
theorem dX6_settle_81 : decode cX6_settle 81 = .ok (.aload_n 0, 1) := by decide +kernel
theorem dX6_settle_82 : decode cX6_settle 82 = .ok (.aload_n 0, 1) := by decide +kernel
theorem dX6_settle_83 : decode cX6_settle 83 = .ok (.iconst (-1), 1) := by decide +kernel
theorem dX6_settle_84 : decode cX6_settle 84 = .ok (.iconst (-1), 1) := by decide +kernel
theorem dX6_settle_85 : decode cX6_settle 85 = .ok (.invokevirtual 41, 3) := by decide +kernel
theorem dX6_settle_88 : decode cX6_settle 88 = .ok (.putfield 44, 3) := by decide +kernel
theorem dX6_settle_91 : decode cX6_settle 91 = .ok (.aload_n 0, 1) := by decide +kernel
theorem dX6_settle_92 : decode cX6_settle 92 = .ok (.invokevirtual 47, 3) := by decide +kernel
theorem dX6_settle_95 : decode cX6_settle 95 = .ok (.return_, 1) := by decide +kernel
theorem dX6_spot_0 : decode cX6_spot 0 = .ok (.iload_n 0, 1) := by decide +kernel
theorem dX6_spot_1 : decode cX6_spot 1 = .ok (.iconst 1, 1) := by decide +kernel
theorem dX6_spot_2 : decode cX6_spot 2 = .ok (.iadd, 1) := by decide +kernel
theorem dX6_spot_3 : decode cX6_spot 3 = .ok (.bipush 101, 2) := by decide +kernel
theorem dX6_spot_5 : decode cX6_spot 5 = .ok (.imul, 1) := by decide +kernel
theorem dX6_spot_6 : decode cX6_spot 6 = .ok (.iload_n 1, 1) := by decide +kernel
theorem dX6_spot_7 : decode cX6_spot 7 = .ok (.iadd, 1) := by decide +kernel
theorem dX6_spot_8 : decode cX6_spot 8 = .ok (.iconst 1, 1) := by decide +kernel
theorem dX6_spot_9 : decode cX6_spot 9 = .ok (.iadd, 1) := by decide +kernel
theorem dX6_spot_10 : decode cX6_spot 10 = .ok (.ireturn, 1) := by decide +kernel
theorem dX6_leastRest_0 : decode cX6_leastRest 0 = .ok (.iload_n 1, 1) := by decide +kernel
theorem dX6_leastRest_1 : decode cX6_leastRest 1 = .ok (.iload_n 2, 1) := by decide +kernel
theorem dX6_leastRest_2 : decode cX6_leastRest 2 = .ok (.invokestatic 50, 3) := by decide +kernel
theorem dX6_leastRest_5 : decode cX6_leastRest 5 = .ok (.iconst 1, 1) := by decide +kernel
theorem dX6_leastRest_6 : decode cX6_leastRest 6 = .ok (.iadd, 1) := by decide +kernel
theorem dX6_leastRest_7 : decode cX6_leastRest 7 = .ok (.istore_n 3, 1) := by decide +kernel
theorem dX6_leastRest_8 : decode cX6_leastRest 8 = .ok (.aload_n 0, 1) := by decide +kernel
theorem dX6_leastRest_9 : decode cX6_leastRest 9 = .ok (.getfield 21, 3) := by decide +kernel
theorem dX6_leastRest_12 : decode cX6_leastRest 12 = .ok (.getfield 32, 3) := by decide +kernel
theorem dX6_leastRest_15 : decode cX6_leastRest 15 = .ok (.iload_n 3, 1) := by decide +kernel
theorem dX6_leastRest_16 : decode cX6_leastRest 16 = .ok (.isub, 1) := by decide +kernel
theorem dX6_leastRest_17 : decode cX6_leastRest 17 = .ok (.aload_n 0, 1) := by decide +kernel
theorem dX6_leastRest_18 : decode cX6_leastRest 18 = .ok (.getfield 29, 3) := by decide +kernel
theorem dX6_leastRest_21 : decode cX6_leastRest 21 = .ok (.imul, 1) := by decide +kernel
theorem dX6_leastRest_22 : decode cX6_leastRest 22 = .ok (.istore 4, 2) := by decide +kernel
theorem dX6_leastRest_24 : decode cX6_leastRest 24 = .ok (.iconst 0, 1) := by decide +kernel
theorem dX6_leastRest_25 : decode cX6_leastRest 25 = .ok (.istore 5, 2) := by decide +kernel
theorem dX6_leastRest_27 : decode cX6_leastRest 27 = .ok (.iload_n 3, 1) := by decide +kernel
theorem dX6_leastRest_28 : decode cX6_leastRest 28 = .ok (.istore 6, 2) := by decide +kernel
theorem dX6_leastRest_30 : decode cX6_leastRest 30 = .ok (.iload 6, 2) := by decide +kernel
theorem dX6_leastRest_32 : decode cX6_leastRest 32 = .ok (.aload_n 0, 1) := by decide +kernel
theorem dX6_leastRest_33 : decode cX6_leastRest 33 = .ok (.getfield 21, 3) := by decide +kernel
theorem dX6_leastRest_36 : decode cX6_leastRest 36 = .ok (.getfield 32, 3) := by decide +kernel
theorem dX6_leastRest_39 : decode cX6_leastRest 39 = .ok (.if_icmp .ge 83, 3) := by decide +kernel
theorem dX6_leastRest_42 : decode cX6_leastRest 42 = .ok (.iload 5, 2) := by decide +kernel
theorem dX6_leastRest_44 : decode cX6_leastRest 44 = .ok (.iload 4, 2) := by decide +kernel
theorem dX6_leastRest_46 : decode cX6_leastRest 46 = .ok (.if_icmp .ge 76, 3) := by decide +kernel
theorem dX6_leastRest_49 : decode cX6_leastRest 49 = .ok (.aload_n 0, 1) := by decide +kernel
theorem dX6_leastRest_50 : decode cX6_leastRest 50 = .ok (.iconst 0, 1) := by decide +kernel
theorem dX6_leastRest_51 : decode cX6_leastRest 51 = .ok (.iload_n 1, 1) := by decide +kernel
theorem dX6_leastRest_52 : decode cX6_leastRest 52 = .ok (.iload_n 2, 1) := by decide +kernel
theorem dX6_leastRest_53 : decode cX6_leastRest 53 = .ok (.iload 6, 2) := by decide +kernel
theorem dX6_leastRest_55 : decode cX6_leastRest 55 = .ok (.invokevirtual 55, 3) := by decide +kernel
theorem dX6_leastRest_58 : decode cX6_leastRest 58 = .ok (.istore 7, 2) := by decide +kernel
theorem dX6_leastRest_60 : decode cX6_leastRest 60 = .ok (.iload 7, 2) := by decide +kernel
theorem dX6_leastRest_62 : decode cX6_leastRest 62 = .ok (.iconst (-1), 1) := by decide +kernel
theorem dX6_leastRest_63 : decode cX6_leastRest 63 = .ok (.if_icmp .eq 15, 3) := by decide +kernel
theorem dX6_leastRest_66 : decode cX6_leastRest 66 = .ok (.iload 4, 2) := by decide +kernel
theorem dX6_leastRest_68 : decode cX6_leastRest 68 = .ok (.iload 5, 2) := by decide +kernel
theorem dX6_leastRest_70 : decode cX6_leastRest 70 = .ok (.iload 7, 2) := by decide +kernel
theorem dX6_leastRest_72 : decode cX6_leastRest 72 = .ok (.iadd, 1) := by decide +kernel
theorem dX6_leastRest_73 : decode cX6_leastRest 73 = .ok (.invokestatic 59, 3) := by decide +kernel
theorem dX6_leastRest_76 : decode cX6_leastRest 76 = .ok (.istore 4, 2) := by decide +kernel
theorem dX6_leastRest_78 : decode cX6_leastRest 78 = .ok (.aload_n 0, 1) := by decide +kernel
theorem dX6_leastRest_79 : decode cX6_leastRest 79 = .ok (.iconst 1, 1) := by decide +kernel
theorem dX6_leastRest_80 : decode cX6_leastRest 80 = .ok (.iload_n 1, 1) := by decide +kernel
theorem dX6_leastRest_81 : decode cX6_leastRest 81 = .ok (.iload_n 2, 1) := by decide +kernel
theorem dX6_leastRest_82 : decode cX6_leastRest 82 = .ok (.iload 6, 2) := by decide +kernel
theorem dX6_leastRest_84 : decode cX6_leastRest 84 = .ok (.invokevirtual 55, 3) := by decide +kernel
theorem dX6_leastRest_87 : decode cX6_leastRest 87 = .ok (.istore 8, 2) := by decide +kernel
theorem dX6_leastRest_89 : decode cX6_leastRest 89 = .ok (.iload 8, 2) := by decide +kernel
theorem dX6_leastRest_91 : decode cX6_leastRest 91 = .ok (.iconst (-1), 1) := by decide +kernel
theorem dX6_leastRest_92 : decode cX6_leastRest 92 = .ok (.if_icmp .eq 15, 3) := by decide +kernel
theorem dX6_leastRest_95 : decode cX6_leastRest 95 = .ok (.iload 4, 2) := by decide +kernel
theorem dX6_leastRest_97 : decode cX6_leastRest 97 = .ok (.iload 5, 2) := by decide +kernel
theorem dX6_leastRest_99 : decode cX6_leastRest 99 = .ok (.iload 8, 2) := by decide +kernel
theorem dX6_leastRest_101 : decode cX6_leastRest 101 = .ok (.iadd, 1) := by decide +kernel
theorem dX6_leastRest_102 : decode cX6_leastRest 102 = .ok (.invokestatic 59, 3) := by decide +kernel
theorem dX6_leastRest_105 : decode cX6_leastRest 105 = .ok (.istore 4, 2) := by decide +kernel
theorem dX6_leastRest_107 : decode cX6_leastRest 107 = .ok (.iload 5, 2) := by decide +kernel
theorem dX6_leastRest_109 : decode cX6_leastRest 109 = .ok (.aload_n 0, 1) := by decide +kernel
theorem dX6_leastRest_110 : decode cX6_leastRest 110 = .ok (.getfield 29, 3) := by decide +kernel
theorem dX6_leastRest_113 : decode cX6_leastRest 113 = .ok (.iadd, 1) := by decide +kernel
theorem dX6_leastRest_114 : decode cX6_leastRest 114 = .ok (.istore 5, 2) := by decide +kernel
theorem dX6_leastRest_116 : decode cX6_leastRest 116 = .ok (.iinc 6 1, 3) := by decide +kernel
theorem dX6_leastRest_119 : decode cX6_leastRest 119 = .ok (.goto (-89), 3) := by decide +kernel
theorem dX6_leastRest_122 : decode cX6_leastRest 122 = .ok (.iload 4, 2) := by decide +kernel
theorem dX6_leastRest_124 : decode cX6_leastRest 124 = .ok (.ireturn, 1) := by decide +kernel
theorem dX6_costBy_0 : decode cX6_costBy 0 = .ok (.iload_n 1, 1) := by decide +kernel
theorem dX6_costBy_1 : decode cX6_costBy 1 = .ok (.ifCond .ne 80, 3) := by decide +kernel
theorem dX6_costBy_4 : decode cX6_costBy 4 = .ok (.iload_n 3, 1) := by decide +kernel
theorem dX6_costBy_5 : decode cX6_costBy 5 = .ok (.iconst (-1), 1) := by decide +kernel
theorem dX6_costBy_6 : decode cX6_costBy 6 = .ok (.if_icmp .eq 29, 3) := by decide +kernel
theorem dX6_costBy_9 : decode cX6_costBy 9 = .ok (.aload_n 0, 1) := by decide +kernel
theorem dX6_costBy_10 : decode cX6_costBy 10 = .ok (.getfield 21, 3) := by decide +kernel
theorem dX6_costBy_13 : decode cX6_costBy 13 = .ok (.getfield 62, 3) := by decide +kernel
theorem dX6_costBy_16 : decode cX6_costBy 16 = .ok (.iload_n 3, 1) := by decide +kernel
theorem dX6_costBy_17 : decode cX6_costBy 17 = .ok (.iaload, 1) := by decide +kernel
theorem dX6_costBy_18 : decode cX6_costBy 18 = .ok (.aload_n 0, 1) := by decide +kernel
theorem dX6_costBy_19 : decode cX6_costBy 19 = .ok (.getfield 21, 3) := by decide +kernel
theorem dX6_costBy_22 : decode cX6_costBy 22 = .ok (.getfield 62, 3) := by decide +kernel
theorem dX6_costBy_25 : decode cX6_costBy 25 = .ok (.iload 4, 2) := by decide +kernel
theorem dX6_costBy_27 : decode cX6_costBy 27 = .ok (.iaload, 1) := by decide +kernel
theorem dX6_costBy_28 : decode cX6_costBy 28 = .ok (.if_icmp .ne 7, 3) := by decide +kernel
theorem dX6_costBy_31 : decode cX6_costBy 31 = .ok (.iconst 1, 1) := by decide +kernel
theorem dX6_costBy_32 : decode cX6_costBy 32 = .ok (.goto 4, 3) := by decide +kernel
theorem dX6_costBy_35 : decode cX6_costBy 35 = .ok (.iconst 0, 1) := by decide +kernel
theorem dX6_costBy_36 : decode cX6_costBy 36 = .ok (.istore 5, 2) := by decide +kernel
theorem dX6_costBy_38 : decode cX6_costBy 38 = .ok (.iload 5, 2) := by decide +kernel
theorem dX6_costBy_40 : decode cX6_costBy 40 = .ok (.ifCond .eq 7, 3) := by decide +kernel
theorem dX6_costBy_43 : decode cX6_costBy 43 = .ok (.iconst (-1), 1) := by decide +kernel
theorem dX6_costBy_44 : decode cX6_costBy 44 = .ok (.goto 10, 3) := by decide +kernel
theorem dX6_costBy_47 : decode cX6_costBy 47 = .ok (.aload_n 0, 1) := by decide +kernel
theorem dX6_costBy_48 : decode cX6_costBy 48 = .ok (.iload_n 2, 1) := by decide +kernel
theorem dX6_costBy_49 : decode cX6_costBy 49 = .ok (.iload 4, 2) := by decide +kernel
theorem dX6_costBy_51 : decode cX6_costBy 51 = .ok (.invokevirtual 65, 3) := by decide +kernel
theorem dX6_costBy_54 : decode cX6_costBy 54 = .ok (.istore 6, 2) := by decide +kernel
theorem dX6_costBy_56 : decode cX6_costBy 56 = .ok (.iload 6, 2) := by decide +kernel
theorem dX6_costBy_58 : decode cX6_costBy 58 = .ok (.iconst (-1), 1) := by decide +kernel
theorem dX6_costBy_59 : decode cX6_costBy 59 = .ok (.if_icmp .ne 7, 3) := by decide +kernel
theorem dX6_costBy_62 : decode cX6_costBy 62 = .ok (.iconst (-1), 1) := by decide +kernel
theorem dX6_costBy_63 : decode cX6_costBy 63 = .ok (.goto 17, 3) := by decide +kernel
theorem dX6_costBy_66 : decode cX6_costBy 66 = .ok (.iload 6, 2) := by decide +kernel
theorem dX6_costBy_68 : decode cX6_costBy 68 = .ok (.aload_n 0, 1) := by decide +kernel
theorem dX6_costBy_69 : decode cX6_costBy 69 = .ok (.getfield 18, 3) := by decide +kernel
theorem dX6_costBy_72 : decode cX6_costBy 72 = .ok (.iload 4, 2) := by decide +kernel
theorem dX6_costBy_74 : decode cX6_costBy 74 = .ok (.iload_n 3, 1) := by decide +kernel
theorem dX6_costBy_75 : decode cX6_costBy 75 = .ok (.invokestatic 37, 3) := by decide +kernel
theorem dX6_costBy_78 : decode cX6_costBy 78 = .ok (.iaload, 1) := by decide +kernel
theorem dX6_costBy_79 : decode cX6_costBy 79 = .ok (.iadd, 1) := by decide +kernel
theorem dX6_costBy_80 : decode cX6_costBy 80 = .ok (.ireturn, 1) := by decide +kernel
theorem dX6_costBy_81 : decode cX6_costBy 81 = .ok (.aload_n 0, 1) := by decide +kernel
theorem dX6_costBy_82 : decode cX6_costBy 82 = .ok (.iload_n 3, 1) := by decide +kernel
theorem dX6_costBy_83 : decode cX6_costBy 83 = .ok (.iload 4, 2) := by decide +kernel
theorem dX6_costBy_85 : decode cX6_costBy 85 = .ok (.invokevirtual 65, 3) := by decide +kernel
theorem dX6_costBy_88 : decode cX6_costBy 88 = .ok (.istore 5, 2) := by decide +kernel
theorem dX6_costBy_90 : decode cX6_costBy 90 = .ok (.iload 5, 2) := by decide +kernel
theorem dX6_costBy_92 : decode cX6_costBy 92 = .ok (.iconst (-1), 1) := by decide +kernel
theorem dX6_costBy_93 : decode cX6_costBy 93 = .ok (.if_icmp .ne 7, 3) := by decide +kernel
theorem dX6_costBy_96 : decode cX6_costBy 96 = .ok (.iconst (-1), 1) := by decide +kernel
theorem dX6_costBy_97 : decode cX6_costBy 97 = .ok (.goto 17, 3) := by decide +kernel
theorem dX6_costBy_100 : decode cX6_costBy 100 = .ok (.iload 5, 2) := by decide +kernel
theorem dX6_costBy_102 : decode cX6_costBy 102 = .ok (.aload_n 0, 1) := by decide +kernel
theorem dX6_costBy_103 : decode cX6_costBy 103 = .ok (.getfield 18, 3) := by decide +kernel
theorem dX6_costBy_106 : decode cX6_costBy 106 = .ok (.iload_n 2, 1) := by decide +kernel
theorem dX6_costBy_107 : decode cX6_costBy 107 = .ok (.iload 4, 2) := by decide +kernel
theorem dX6_costBy_109 : decode cX6_costBy 109 = .ok (.invokestatic 37, 3) := by decide +kernel
theorem dX6_costBy_112 : decode cX6_costBy 112 = .ok (.iaload, 1) := by decide +kernel
theorem dX6_costBy_113 : decode cX6_costBy 113 = .ok (.iadd, 1) := by decide +kernel
theorem dX6_costBy_114 : decode cX6_costBy 114 = .ok (.ireturn, 1) := by decide +kernel
theorem dX6_moveTo_0 : decode cX6_moveTo 0 = .ok (.iload_n 1, 1) := by decide +kernel
theorem dX6_moveTo_1 : decode cX6_moveTo 1 = .ok (.iconst (-1), 1) := by decide +kernel
theorem dX6_moveTo_2 : decode cX6_moveTo 2 = .ok (.if_icmp .ne 5, 3) := by decide +kernel
theorem dX6_moveTo_5 : decode cX6_moveTo 5 = .ok (.iconst 0, 1) := by decide +kernel
theorem dX6_moveTo_6 : decode cX6_moveTo 6 = .ok (.ireturn, 1) := by decide +kernel
theorem dX6_moveTo_7 : decode cX6_moveTo 7 = .ok (.aload_n 0, 1) := by decide +kernel
theorem dX6_moveTo_8 : decode cX6_moveTo 8 = .ok (.getfield 21, 3) := by decide +kernel
theorem dX6_moveTo_11 : decode cX6_moveTo 11 = .ok (.getfield 62, 3) := by decide +kernel
theorem dX6_moveTo_14 : decode cX6_moveTo 14 = .ok (.iload_n 2, 1) := by decide +kernel
theorem dX6_moveTo_15 : decode cX6_moveTo 15 = .ok (.iaload, 1) := by decide +kernel
theorem dX6_moveTo_16 : decode cX6_moveTo 16 = .ok (.aload_n 0, 1) := by decide +kernel
theorem dX6_moveTo_17 : decode cX6_moveTo 17 = .ok (.getfield 21, 3) := by decide +kernel
theorem dX6_moveTo_20 : decode cX6_moveTo 20 = .ok (.getfield 62, 3) := by decide +kernel
theorem dX6_moveTo_23 : decode cX6_moveTo 23 = .ok (.iload_n 1, 1) := by decide +kernel
theorem dX6_moveTo_24 : decode cX6_moveTo 24 = .ok (.iaload, 1) := by decide +kernel
theorem dX6_moveTo_25 : decode cX6_moveTo 25 = .ok (.isub, 1) := by decide +kernel
theorem dX6_moveTo_26 : decode cX6_moveTo 26 = .ok (.istore_n 3, 1) := by decide +kernel
theorem dX6_moveTo_27 : decode cX6_moveTo 27 = .ok (.aload_n 0, 1) := by decide +kernel
theorem dX6_moveTo_28 : decode cX6_moveTo 28 = .ok (.getfield 21, 3) := by decide +kernel
theorem dX6_moveTo_31 : decode cX6_moveTo 31 = .ok (.iload_n 1, 1) := by decide +kernel
theorem dX6_moveTo_32 : decode cX6_moveTo 32 = .ok (.iload_n 2, 1) := by decide +kernel
theorem dX6_moveTo_33 : decode cX6_moveTo 33 = .ok (.invokevirtual 68, 3) := by decide +kernel
theorem dX6_moveTo_36 : decode cX6_moveTo 36 = .ok (.istore 4, 2) := by decide +kernel
theorem dX6_moveTo_38 : decode cX6_moveTo 38 = .ok (.iload_n 3, 1) := by decide +kernel
theorem dX6_moveTo_39 : decode cX6_moveTo 39 = .ok (.iconst 1, 1) := by decide +kernel
theorem dX6_moveTo_40 : decode cX6_moveTo 40 = .ok (.if_icmp .lt 14, 3) := by decide +kernel
theorem dX6_moveTo_43 : decode cX6_moveTo 43 = .ok (.iload 4, 2) := by decide +kernel
theorem dX6_moveTo_45 : decode cX6_moveTo 45 = .ok (.aload_n 0, 1) := by decide +kernel
theorem dX6_moveTo_46 : decode cX6_moveTo 46 = .ok (.getfield 25, 3) := by decide +kernel
theorem dX6_moveTo_49 : decode cX6_moveTo 49 = .ok (.iload_n 3, 1) := by decide +kernel
theorem dX6_moveTo_50 : decode cX6_moveTo 50 = .ok (.imul, 1) := by decide +kernel
theorem dX6_moveTo_51 : decode cX6_moveTo 51 = .ok (.if_icmp .le 7, 3) := by decide +kernel
theorem dX6_moveTo_54 : decode cX6_moveTo 54 = .ok (.iconst (-1), 1) := by decide +kernel
theorem dX6_moveTo_55 : decode cX6_moveTo 55 = .ok (.goto 5, 3) := by decide +kernel
theorem dX6_moveTo_58 : decode cX6_moveTo 58 = .ok (.iload 4, 2) := by decide +kernel
theorem dX6_moveTo_60 : decode cX6_moveTo 60 = .ok (.ireturn, 1) := by decide +kernel
theorem dX6_walk_0 : decode cX6_walk 0 = .ok (.iconst (-1), 1) := by decide +kernel
theorem dX6_walk_1 : decode cX6_walk 1 = .ok (.istore_n 1, 1) := by decide +kernel
theorem dX6_walk_2 : decode cX6_walk 2 = .ok (.iconst (-1), 1) := by decide +kernel
theorem dX6_walk_3 : decode cX6_walk 3 = .ok (.istore_n 2, 1) := by decide +kernel
theorem dX6_walk_4 : decode cX6_walk 4 = .ok (.aload_n 0, 1) := by decide +kernel
theorem dX6_walk_5 : decode cX6_walk 5 = .ok (.getfield 44, 3) := by decide +kernel
theorem dX6_walk_8 : decode cX6_walk 8 = .ok (.istore_n 3, 1) := by decide +kernel
theorem dX6_walk_9 : decode cX6_walk 9 = .ok (.aload_n 0, 1) := by decide +kernel
theorem dX6_walk_10 : decode cX6_walk 10 = .ok (.getfield 15, 3) := by decide +kernel
theorem dX6_walk_13 : decode cX6_walk 13 = .ok (.iconst 0, 1) := by decide +kernel
theorem dX6_walk_14 : decode cX6_walk 14 = .ok (.iconst 0, 1) := by decide +kernel
theorem dX6_walk_15 : decode cX6_walk 15 = .ok (.iastore, 1) := by decide +kernel
theorem dX6_walk_16 : decode cX6_walk 16 = .ok (.aload_n 0, 1) := by decide +kernel
theorem dX6_walk_17 : decode cX6_walk 17 = .ok (.getfield 15, 3) := by decide +kernel
theorem dX6_walk_20 : decode cX6_walk 20 = .ok (.iconst 1, 1) := by decide +kernel
theorem dX6_walk_21 : decode cX6_walk 21 = .ok (.iconst 0, 1) := by decide +kernel
theorem dX6_walk_22 : decode cX6_walk 22 = .ok (.iastore, 1) := by decide +kernel
theorem dX6_walk_23 : decode cX6_walk 23 = .ok (.aload_n 0, 1) := by decide +kernel
theorem dX6_walk_24 : decode cX6_walk 24 = .ok (.iconst 0, 1) := by decide +kernel
theorem dX6_walk_25 : decode cX6_walk 25 = .ok (.putfield 71, 3) := by decide +kernel
theorem dX6_walk_28 : decode cX6_walk 28 = .ok (.iconst 0, 1) := by decide +kernel
theorem dX6_walk_29 : decode cX6_walk 29 = .ok (.istore 4, 2) := by decide +kernel
theorem dX6_walk_31 : decode cX6_walk 31 = .ok (.iload 4, 2) := by decide +kernel
theorem dX6_walk_33 : decode cX6_walk 33 = .ok (.aload_n 0, 1) := by decide +kernel
theorem dX6_walk_34 : decode cX6_walk 34 = .ok (.getfield 21, 3) := by decide +kernel
theorem dX6_walk_37 : decode cX6_walk 37 = .ok (.getfield 32, 3) := by decide +kernel
theorem dX6_walk_40 : decode cX6_walk 40 = .ok (.if_icmp .ge 142, 3) := by decide +kernel
theorem dX6_walk_43 : decode cX6_walk 43 = .ok (.aload_n 0, 1) := by decide +kernel
theorem dX6_walk_44 : decode cX6_walk 44 = .ok (.iconst 0, 1) := by decide +kernel
theorem dX6_walk_45 : decode cX6_walk 45 = .ok (.iload_n 1, 1) := by decide +kernel
theorem dX6_walk_46 : decode cX6_walk 46 = .ok (.iload_n 2, 1) := by decide +kernel
theorem dX6_walk_47 : decode cX6_walk 47 = .ok (.iload 4, 2) := by decide +kernel
theorem dX6_walk_49 : decode cX6_walk 49 = .ok (.invokevirtual 55, 3) := by decide +kernel
theorem dX6_walk_52 : decode cX6_walk 52 = .ok (.iload_n 3, 1) := by decide +kernel
theorem dX6_walk_53 : decode cX6_walk 53 = .ok (.if_icmp .ne 44, 3) := by decide +kernel
theorem dX6_walk_56 : decode cX6_walk 56 = .ok (.aload_n 0, 1) := by decide +kernel
theorem dX6_walk_57 : decode cX6_walk 57 = .ok (.getfield 9, 3) := by decide +kernel
theorem dX6_walk_60 : decode cX6_walk 60 = .ok (.iload 4, 2) := by decide +kernel
theorem dX6_walk_62 : decode cX6_walk 62 = .ok (.iconst 0, 1) := by decide +kernel
theorem dX6_walk_63 : decode cX6_walk 63 = .ok (.iastore, 1) := by decide +kernel
theorem dX6_walk_64 : decode cX6_walk 64 = .ok (.aload_n 0, 1) := by decide +kernel
theorem dX6_walk_65 : decode cX6_walk 65 = .ok (.getfield 15, 3) := by decide +kernel
theorem dX6_walk_68 : decode cX6_walk 68 = .ok (.iconst 0, 1) := by decide +kernel
theorem dX6_walk_69 : decode cX6_walk 69 = .ok (.dup2, 1) := by decide +kernel
theorem dX6_walk_70 : decode cX6_walk 70 = .ok (.iaload, 1) := by decide +kernel
theorem dX6_walk_71 : decode cX6_walk 71 = .ok (.aload_n 0, 1) := by decide +kernel
theorem dX6_walk_72 : decode cX6_walk 72 = .ok (.iload_n 1, 1) := by decide +kernel
theorem dX6_walk_73 : decode cX6_walk 73 = .ok (.iload 4, 2) := by decide +kernel
theorem dX6_walk_75 : decode cX6_walk 75 = .ok (.invokevirtual 65, 3) := by decide +kernel
theorem dX6_walk_78 : decode cX6_walk 78 = .ok (.iadd, 1) := by decide +kernel
theorem dX6_walk_79 : decode cX6_walk 79 = .ok (.iastore, 1) := by decide +kernel
theorem dX6_walk_80 : decode cX6_walk 80 = .ok (.iload 4, 2) := by decide +kernel
theorem dX6_walk_82 : decode cX6_walk 82 = .ok (.istore_n 1, 1) := by decide +kernel
theorem dX6_walk_83 : decode cX6_walk 83 = .ok (.aload_n 0, 1) := by decide +kernel
theorem dX6_walk_84 : decode cX6_walk 84 = .ok (.getfield 18, 3) := by decide +kernel
theorem dX6_walk_87 : decode cX6_walk 87 = .ok (.iload_n 1, 1) := by decide +kernel
theorem dX6_walk_88 : decode cX6_walk 88 = .ok (.iload_n 2, 1) := by decide +kernel
theorem dX6_walk_89 : decode cX6_walk 89 = .ok (.invokestatic 37, 3) := by decide +kernel
theorem dX6_walk_92 : decode cX6_walk 92 = .ok (.iaload, 1) := by decide +kernel
theorem dX6_walk_93 : decode cX6_walk 93 = .ok (.istore_n 3, 1) := by decide +kernel
theorem dX6_walk_94 : decode cX6_walk 94 = .ok (.goto 82, 3) := by decide +kernel
theorem dX6_walk_97 : decode cX6_walk 97 = .ok (.aload_n 0, 1) := by decide +kernel
theorem dX6_walk_98 : decode cX6_walk 98 = .ok (.iconst 1, 1) := by decide +kernel
theorem dX6_walk_99 : decode cX6_walk 99 = .ok (.iload_n 1, 1) := by decide +kernel
theorem dX6_walk_100 : decode cX6_walk 100 = .ok (.iload_n 2, 1) := by decide +kernel
theorem dX6_walk_101 : decode cX6_walk 101 = .ok (.iload 4, 2) := by decide +kernel
theorem dX6_walk_103 : decode cX6_walk 103 = .ok (.invokevirtual 55, 3) := by decide +kernel
theorem dX6_walk_106 : decode cX6_walk 106 = .ok (.iload_n 3, 1) := by decide +kernel
theorem dX6_walk_107 : decode cX6_walk 107 = .ok (.if_icmp .ne 44, 3) := by decide +kernel
theorem dX6_walk_110 : decode cX6_walk 110 = .ok (.aload_n 0, 1) := by decide +kernel
theorem dX6_walk_111 : decode cX6_walk 111 = .ok (.getfield 9, 3) := by decide +kernel
theorem dX6_walk_114 : decode cX6_walk 114 = .ok (.iload 4, 2) := by decide +kernel
theorem dX6_walk_116 : decode cX6_walk 116 = .ok (.iconst 1, 1) := by decide +kernel
theorem dX6_walk_117 : decode cX6_walk 117 = .ok (.iastore, 1) := by decide +kernel
theorem dX6_walk_118 : decode cX6_walk 118 = .ok (.aload_n 0, 1) := by decide +kernel
theorem dX6_walk_119 : decode cX6_walk 119 = .ok (.getfield 15, 3) := by decide +kernel
theorem dX6_walk_122 : decode cX6_walk 122 = .ok (.iconst 1, 1) := by decide +kernel
theorem dX6_walk_123 : decode cX6_walk 123 = .ok (.dup2, 1) := by decide +kernel
theorem dX6_walk_124 : decode cX6_walk 124 = .ok (.iaload, 1) := by decide +kernel
theorem dX6_walk_125 : decode cX6_walk 125 = .ok (.aload_n 0, 1) := by decide +kernel
theorem dX6_walk_126 : decode cX6_walk 126 = .ok (.iload_n 2, 1) := by decide +kernel
theorem dX6_walk_127 : decode cX6_walk 127 = .ok (.iload 4, 2) := by decide +kernel
theorem dX6_walk_129 : decode cX6_walk 129 = .ok (.invokevirtual 65, 3) := by decide +kernel
theorem dX6_walk_132 : decode cX6_walk 132 = .ok (.iadd, 1) := by decide +kernel
theorem dX6_walk_133 : decode cX6_walk 133 = .ok (.iastore, 1) := by decide +kernel
theorem dX6_walk_134 : decode cX6_walk 134 = .ok (.iload 4, 2) := by decide +kernel
theorem dX6_walk_136 : decode cX6_walk 136 = .ok (.istore_n 2, 1) := by decide +kernel
theorem dX6_walk_137 : decode cX6_walk 137 = .ok (.aload_n 0, 1) := by decide +kernel
theorem dX6_walk_138 : decode cX6_walk 138 = .ok (.getfield 18, 3) := by decide +kernel
theorem dX6_walk_141 : decode cX6_walk 141 = .ok (.iload_n 1, 1) := by decide +kernel
theorem dX6_walk_142 : decode cX6_walk 142 = .ok (.iload_n 2, 1) := by decide +kernel
theorem dX6_walk_143 : decode cX6_walk 143 = .ok (.invokestatic 37, 3) := by decide +kernel
theorem dX6_walk_146 : decode cX6_walk 146 = .ok (.iaload, 1) := by decide +kernel
theorem dX6_walk_147 : decode cX6_walk 147 = .ok (.istore_n 3, 1) := by decide +kernel
theorem dX6_walk_148 : decode cX6_walk 148 = .ok (.goto 28, 3) := by decide +kernel
theorem dX6_walk_151 : decode cX6_walk 151 = .ok (.aload_n 0, 1) := by decide +kernel
theorem dX6_walk_152 : decode cX6_walk 152 = .ok (.getfield 9, 3) := by decide +kernel
theorem dX6_walk_155 : decode cX6_walk 155 = .ok (.iload 4, 2) := by decide +kernel
theorem dX6_walk_157 : decode cX6_walk 157 = .ok (.iconst 2, 1) := by decide +kernel
theorem dX6_walk_158 : decode cX6_walk 158 = .ok (.iastore, 1) := by decide +kernel
theorem dX6_walk_159 : decode cX6_walk 159 = .ok (.aload_n 0, 1) := by decide +kernel
theorem dX6_walk_160 : decode cX6_walk 160 = .ok (.dup, 1) := by decide +kernel
theorem dX6_walk_161 : decode cX6_walk 161 = .ok (.getfield 71, 3) := by decide +kernel
theorem dX6_walk_164 : decode cX6_walk 164 = .ok (.iconst 1, 1) := by decide +kernel
theorem dX6_walk_165 : decode cX6_walk 165 = .ok (.iadd, 1) := by decide +kernel
theorem dX6_walk_166 : decode cX6_walk 166 = .ok (.putfield 71, 3) := by decide +kernel
theorem dX6_walk_169 : decode cX6_walk 169 = .ok (.iload_n 3, 1) := by decide +kernel
theorem dX6_walk_170 : decode cX6_walk 170 = .ok (.aload_n 0, 1) := by decide +kernel
theorem dX6_walk_171 : decode cX6_walk 171 = .ok (.getfield 29, 3) := by decide +kernel
theorem dX6_walk_174 : decode cX6_walk 174 = .ok (.isub, 1) := by decide +kernel
theorem dX6_walk_175 : decode cX6_walk 175 = .ok (.istore_n 3, 1) := by decide +kernel
theorem dX6_walk_176 : decode cX6_walk 176 = .ok (.iinc 4 1, 3) := by decide +kernel
theorem dX6_walk_179 : decode cX6_walk 179 = .ok (.goto (-148), 3) := by decide +kernel
theorem dX6_walk_182 : decode cX6_walk 182 = .ok (.return_, 1) := by decide +kernel
theorem dX7_init_0 : decode cX7_init 0 = .ok (.aload_n 0, 1) := by decide +kernel
theorem dX7_init_1 : decode cX7_init 1 = .ok (.invokespecial 3, 3) := by decide +kernel
theorem dX7_init_4 : decode cX7_init 4 = .ok (.aload_n 0, 1) := by decide +kernel
theorem dX7_init_5 : decode cX7_init 5 = .ok (.sipush 1000, 3) := by decide +kernel
theorem dX7_init_8 : decode cX7_init 8 = .ok (.newarray .byte, 2) := by decide +kernel
theorem dX7_init_10 : decode cX7_init 10 = .ok (.putfield 9, 3) := by decide +kernel
theorem dX7_init_13 : decode cX7_init 13 = .ok (.aload_n 0, 1) := by decide +kernel
theorem dX7_init_14 : decode cX7_init 14 = .ok (.iconst 0, 1) := by decide +kernel
theorem dX7_init_15 : decode cX7_init 15 = .ok (.putfield 15, 3) := by decide +kernel
theorem dX7_init_18 : decode cX7_init 18 = .ok (.return_, 1) := by decide +kernel
theorem dX7_hasRoom_0 : decode cX7_hasRoom 0 = .ok (.aload_n 0, 1) := by decide +kernel
theorem dX7_hasRoom_1 : decode cX7_hasRoom 1 = .ok (.getfield 15, 3) := by decide +kernel
theorem dX7_hasRoom_4 : decode cX7_hasRoom 4 = .ok (.bipush 20, 2) := by decide +kernel
theorem dX7_hasRoom_6 : decode cX7_hasRoom 6 = .ok (.iadd, 1) := by decide +kernel
theorem dX7_hasRoom_7 : decode cX7_hasRoom 7 = .ok (.sipush 1000, 3) := by decide +kernel
theorem dX7_hasRoom_10 : decode cX7_hasRoom 10 = .ok (.if_icmp .gt 7, 3) := by decide +kernel
theorem dX7_hasRoom_13 : decode cX7_hasRoom 13 = .ok (.iconst 1, 1) := by decide +kernel
theorem dX7_hasRoom_14 : decode cX7_hasRoom 14 = .ok (.goto 4, 3) := by decide +kernel
theorem dX7_hasRoom_17 : decode cX7_hasRoom 17 = .ok (.iconst 0, 1) := by decide +kernel
theorem dX7_hasRoom_18 : decode cX7_hasRoom 18 = .ok (.ireturn, 1) := by decide +kernel
theorem dX7_addNumber_0 : decode cX7_addNumber 0 = .ok (.bipush 24, 2) := by decide +kernel
theorem dX7_addNumber_2 : decode cX7_addNumber 2 = .ok (.istore_n 2, 1) := by decide +kernel
theorem dX7_addNumber_3 : decode cX7_addNumber 3 = .ok (.iload_n 2, 1) := by decide +kernel
theorem dX7_addNumber_4 : decode cX7_addNumber 4 = .ok (.ifCond .lt 42, 3) := by decide +kernel
theorem dX7_addNumber_7 : decode cX7_addNumber 7 = .ok (.aload_n 0, 1) := by decide +kernel
theorem dX7_addNumber_8 : decode cX7_addNumber 8 = .ok (.getfield 15, 3) := by decide +kernel
theorem dX7_addNumber_11 : decode cX7_addNumber 11 = .ok (.sipush 1000, 3) := by decide +kernel
theorem dX7_addNumber_14 : decode cX7_addNumber 14 = .ok (.if_icmp .ge 32, 3) := by decide +kernel
theorem dX7_addNumber_17 : decode cX7_addNumber 17 = .ok (.aload_n 0, 1) := by decide +kernel
theorem dX7_addNumber_18 : decode cX7_addNumber 18 = .ok (.getfield 9, 3) := by decide +kernel
theorem dX7_addNumber_21 : decode cX7_addNumber 21 = .ok (.aload_n 0, 1) := by decide +kernel
theorem dX7_addNumber_22 : decode cX7_addNumber 22 = .ok (.getfield 15, 3) := by decide +kernel
theorem dX7_addNumber_25 : decode cX7_addNumber 25 = .ok (.iload_n 1, 1) := by decide +kernel
theorem dX7_addNumber_26 : decode cX7_addNumber 26 = .ok (.iload_n 2, 1) := by decide +kernel
theorem dX7_addNumber_27 : decode cX7_addNumber 27 = .ok (.ishr, 1) := by decide +kernel
theorem dX7_addNumber_28 : decode cX7_addNumber 28 = .ok (.i2b, 1) := by decide +kernel
theorem dX7_addNumber_29 : decode cX7_addNumber 29 = .ok (.bastore, 1) := by decide +kernel
theorem dX7_addNumber_30 : decode cX7_addNumber 30 = .ok (.aload_n 0, 1) := by decide +kernel
theorem dX7_addNumber_31 : decode cX7_addNumber 31 = .ok (.dup, 1) := by decide +kernel
theorem dX7_addNumber_32 : decode cX7_addNumber 32 = .ok (.getfield 15, 3) := by decide +kernel
theorem dX7_addNumber_35 : decode cX7_addNumber 35 = .ok (.iconst 1, 1) := by decide +kernel
theorem dX7_addNumber_36 : decode cX7_addNumber 36 = .ok (.iadd, 1) := by decide +kernel
theorem dX7_addNumber_37 : decode cX7_addNumber 37 = .ok (.putfield 15, 3) := by decide +kernel
theorem dX7_addNumber_40 : decode cX7_addNumber 40 = .ok (.iinc 2 (-8), 3) := by decide +kernel
theorem dX7_addNumber_43 : decode cX7_addNumber 43 = .ok (.goto (-40), 3) := by decide +kernel
theorem dX7_addNumber_46 : decode cX7_addNumber 46 = .ok (.return_, 1) := by decide +kernel
theorem dX8_init_0 : decode cX8_init 0 = .ok (.aload_n 0, 1) := by decide +kernel
theorem dX8_init_1 : decode cX8_init 1 = .ok (.invokespecial 3, 3) := by decide +kernel
theorem dX8_init_4 : decode cX8_init 4 = .ok (.aload_n 0, 1) := by decide +kernel
theorem dX8_init_5 : decode cX8_init 5 = .ok (.bipush 24, 2) := by decide +kernel
theorem dX8_init_7 : decode cX8_init 7 = .ok (.newarray .int, 2) := by decide +kernel
theorem dX8_init_9 : decode cX8_init 9 = .ok (.putfield 9, 3) := by decide +kernel
theorem dX8_init_12 : decode cX8_init 12 = .ok (.aload_n 0, 1) := by decide +kernel
theorem dX8_init_13 : decode cX8_init 13 = .ok (.sipush 3142, 3) := by decide +kernel
theorem dX8_init_16 : decode cX8_init 16 = .ok (.putfield 15, 3) := by decide +kernel
theorem dX8_init_19 : decode cX8_init 19 = .ok (.aload_n 0, 1) := by decide +kernel
theorem dX8_init_20 : decode cX8_init 20 = .ok (.bipush 100, 2) := by decide +kernel
theorem dX8_init_22 : decode cX8_init 22 = .ok (.newarray .int, 2) := by decide +kernel
theorem dX8_init_24 : decode cX8_init 24 = .ok (.putfield 19, 3) := by decide +kernel
theorem dX8_init_27 : decode cX8_init 27 = .ok (.iconst 0, 1) := by decide +kernel
theorem dX8_init_28 : decode cX8_init 28 = .ok (.istore_n 1, 1) := by decide +kernel
theorem dX8_init_29 : decode cX8_init 29 = .ok (.iload_n 1, 1) := by decide +kernel
theorem dX8_init_30 : decode cX8_init 30 = .ok (.bipush 24, 2) := by decide +kernel
theorem dX8_init_32 : decode cX8_init 32 = .ok (.if_icmp .ge 17, 3) := by decide +kernel
theorem dX8_init_35 : decode cX8_init 35 = .ok (.aload_n 0, 1) := by decide +kernel
theorem dX8_init_36 : decode cX8_init 36 = .ok (.getfield 9, 3) := by decide +kernel
theorem dX8_init_39 : decode cX8_init 39 = .ok (.iload_n 1, 1) := by decide +kernel
theorem dX8_init_40 : decode cX8_init 40 = .ok (.bipush 8, 2) := by decide +kernel
theorem dX8_init_42 : decode cX8_init 42 = .ok (.iastore, 1) := by decide +kernel
theorem dX8_init_43 : decode cX8_init 43 = .ok (.iinc 1 1, 3) := by decide +kernel
theorem dX8_init_46 : decode cX8_init 46 = .ok (.goto (-17), 3) := by decide +kernel
theorem dX8_init_49 : decode cX8_init 49 = .ok (.return_, 1) := by decide +kernel
theorem dX8_soundLength_0 : decode cX8_soundLength 0 = .ok (.aload_n 0, 1) := by decide +kernel
theorem dX8_soundLength_1 : decode cX8_soundLength 1 = .ok (.getfield 9, 3) := by decide +kernel
theorem dX8_soundLength_4 : decode cX8_soundLength 4 = .ok (.aload_n 1, 1) := by decide +kernel
theorem dX8_soundLength_5 : decode cX8_soundLength 5 = .ok (.getfield 22, 3) := by decide +kernel
theorem dX8_soundLength_8 : decode cX8_soundLength 8 = .ok (.iload_n 2, 1) := by decide +kernel
theorem dX8_soundLength_9 : decode cX8_soundLength 9 = .ok (.iaload, 1) := by decide +kernel
theorem dX8_soundLength_10 : decode cX8_soundLength 10 = .ok (.iaload, 1) := by decide +kernel
theorem dX8_soundLength_11 : decode cX8_soundLength 11 = .ok (.istore_n 3, 1) := by decide +kernel
theorem dX8_soundLength_12 : decode cX8_soundLength 12 = .ok (.iload_n 2, 1) := by decide +kernel
theorem dX8_soundLength_13 : decode cX8_soundLength 13 = .ok (.iconst 1, 1) := by decide +kernel
theorem dX8_soundLength_14 : decode cX8_soundLength 14 = .ok (.iadd, 1) := by decide +kernel
theorem dX8_soundLength_15 : decode cX8_soundLength 15 = .ok (.istore 4, 2) := by decide +kernel
theorem dX8_soundLength_17 : decode cX8_soundLength 17 = .ok (.iload 4, 2) := by decide +kernel
theorem dX8_soundLength_19 : decode cX8_soundLength 19 = .ok (.aload_n 1, 1) := by decide +kernel
theorem dX8_soundLength_20 : decode cX8_soundLength 20 = .ok (.getfield 27, 3) := by decide +kernel
theorem dX8_soundLength_23 : decode cX8_soundLength 23 = .ok (.if_icmp .ge 44, 3) := by decide +kernel
theorem dX8_soundLength_26 : decode cX8_soundLength 26 = .ok (.aload_n 1, 1) := by decide +kernel
theorem dX8_soundLength_27 : decode cX8_soundLength 27 = .ok (.getfield 22, 3) := by decide +kernel
theorem dX8_soundLength_30 : decode cX8_soundLength 30 = .ok (.iload 4, 2) := by decide +kernel
theorem dX8_soundLength_32 : decode cX8_soundLength 32 = .ok (.iaload, 1) := by decide +kernel
theorem dX8_soundLength_33 : decode cX8_soundLength 33 = .ok (.aload_n 1, 1) := by decide +kernel
theorem dX8_soundLength_34 : decode cX8_soundLength 34 = .ok (.getfield 22, 3) := by decide +kernel
theorem dX8_soundLength_37 : decode cX8_soundLength 37 = .ok (.iload_n 2, 1) := by decide +kernel
theorem dX8_soundLength_38 : decode cX8_soundLength 38 = .ok (.iaload, 1) := by decide +kernel
theorem dX8_soundLength_39 : decode cX8_soundLength 39 = .ok (.if_icmp .ne 22, 3) := by decide +kernel
theorem dX8_soundLength_42 : decode cX8_soundLength 42 = .ok (.iload_n 3, 1) := by decide +kernel
theorem dX8_soundLength_43 : decode cX8_soundLength 43 = .ok (.aload_n 1, 1) := by decide +kernel
theorem dX8_soundLength_44 : decode cX8_soundLength 44 = .ok (.getfield 30, 3) := by decide +kernel
theorem dX8_soundLength_47 : decode cX8_soundLength 47 = .ok (.iload 4, 2) := by decide +kernel
theorem dX8_soundLength_49 : decode cX8_soundLength 49 = .ok (.iaload, 1) := by decide +kernel
theorem dX8_soundLength_50 : decode cX8_soundLength 50 = .ok (.aload_n 1, 1) := by decide +kernel
theorem dX8_soundLength_51 : decode cX8_soundLength 51 = .ok (.getfield 30, 3) := by decide +kernel
theorem dX8_soundLength_54 : decode cX8_soundLength 54 = .ok (.iload_n 2, 1) := by decide +kernel
theorem dX8_soundLength_55 : decode cX8_soundLength 55 = .ok (.iaload, 1) := by decide +kernel
theorem dX8_soundLength_56 : decode cX8_soundLength 56 = .ok (.isub, 1) := by decide +kernel
theorem dX8_soundLength_57 : decode cX8_soundLength 57 = .ok (.invokestatic 33, 3) := by decide +kernel
theorem dX8_soundLength_60 : decode cX8_soundLength 60 = .ok (.ireturn, 1) := by decide +kernel
theorem dX8_soundLength_61 : decode cX8_soundLength 61 = .ok (.iinc 4 1, 3) := by decide +kernel
theorem dX8_soundLength_64 : decode cX8_soundLength 64 = .ok (.goto (-47), 3) := by decide +kernel
theorem dX8_soundLength_67 : decode cX8_soundLength 67 = .ok (.iload_n 3, 1) := by decide +kernel
theorem dX8_soundLength_68 : decode cX8_soundLength 68 = .ok (.ireturn, 1) := by decide +kernel
theorem dX8_quarrelTicks_0 : decode cX8_quarrelTicks 0 = .ok (.iconst 0, 1) := by decide +kernel
theorem dX8_quarrelTicks_1 : decode cX8_quarrelTicks 1 = .ok (.istore_n 2, 1) := by decide +kernel
theorem dX8_quarrelTicks_2 : decode cX8_quarrelTicks 2 = .ok (.iload_n 2, 1) := by decide +kernel
theorem dX8_quarrelTicks_3 : decode cX8_quarrelTicks 3 = .ok (.aload_n 1, 1) := by decide +kernel
theorem dX8_quarrelTicks_4 : decode cX8_quarrelTicks 4 = .ok (.getfield 27, 3) := by decide +kernel
theorem dX8_quarrelTicks_7 : decode cX8_quarrelTicks 7 = .ok (.if_icmp .ge 21, 3) := by decide +kernel
theorem dX8_quarrelTicks_10 : decode cX8_quarrelTicks 10 = .ok (.aload_n 0, 1) := by decide +kernel
theorem dX8_quarrelTicks_11 : decode cX8_quarrelTicks 11 = .ok (.getfield 19, 3) := by decide +kernel
theorem dX8_quarrelTicks_14 : decode cX8_quarrelTicks 14 = .ok (.iload_n 2, 1) := by decide +kernel
theorem dX8_quarrelTicks_15 : decode cX8_quarrelTicks 15 = .ok (.aload_n 0, 1) := by decide +kernel
theorem dX8_quarrelTicks_16 : decode cX8_quarrelTicks 16 = .ok (.aload_n 1, 1) := by decide +kernel
theorem dX8_quarrelTicks_17 : decode cX8_quarrelTicks 17 = .ok (.iload_n 2, 1) := by decide +kernel
theorem dX8_quarrelTicks_18 : decode cX8_quarrelTicks 18 = .ok (.invokevirtual 39, 3) := by decide +kernel
theorem dX8_quarrelTicks_21 : decode cX8_quarrelTicks 21 = .ok (.iastore, 1) := by decide +kernel
theorem dX8_quarrelTicks_22 : decode cX8_quarrelTicks 22 = .ok (.iinc 2 1, 3) := by decide +kernel
theorem dX8_quarrelTicks_25 : decode cX8_quarrelTicks 25 = .ok (.goto (-23), 3) := by decide +kernel
theorem dX8_quarrelTicks_28 : decode cX8_quarrelTicks 28 = .ok (.iconst 0, 1) := by decide +kernel
theorem dX8_quarrelTicks_29 : decode cX8_quarrelTicks 29 = .ok (.istore_n 2, 1) := by decide +kernel
theorem dX8_quarrelTicks_30 : decode cX8_quarrelTicks 30 = .ok (.iconst 0, 1) := by decide +kernel
theorem dX8_quarrelTicks_31 : decode cX8_quarrelTicks 31 = .ok (.istore_n 3, 1) := by decide +kernel
theorem dX8_quarrelTicks_32 : decode cX8_quarrelTicks 32 = .ok (.iload_n 3, 1) := by decide +kernel
theorem dX8_quarrelTicks_33 : decode cX8_quarrelTicks 33 = .ok (.aload_n 1, 1) := by decide +kernel
theorem dX8_quarrelTicks_34 : decode cX8_quarrelTicks 34 = .ok (.getfield 27, 3) := by decide +kernel
theorem dX8_quarrelTicks_37 : decode cX8_quarrelTicks 37 = .ok (.if_icmp .ge 51, 3) := by decide +kernel
theorem dX8_quarrelTicks_40 : decode cX8_quarrelTicks 40 = .ok (.iload_n 3, 1) := by decide +kernel
theorem dX8_quarrelTicks_41 : decode cX8_quarrelTicks 41 = .ok (.iconst 1, 1) := by decide +kernel
theorem dX8_quarrelTicks_42 : decode cX8_quarrelTicks 42 = .ok (.iadd, 1) := by decide +kernel
theorem dX8_quarrelTicks_43 : decode cX8_quarrelTicks 43 = .ok (.istore 4, 2) := by decide +kernel
theorem dX8_quarrelTicks_45 : decode cX8_quarrelTicks 45 = .ok (.iload 4, 2) := by decide +kernel
theorem dX8_quarrelTicks_47 : decode cX8_quarrelTicks 47 = .ok (.aload_n 1, 1) := by decide +kernel
theorem dX8_quarrelTicks_48 : decode cX8_quarrelTicks 48 = .ok (.getfield 27, 3) := by decide +kernel
theorem dX8_quarrelTicks_51 : decode cX8_quarrelTicks 51 = .ok (.if_icmp .ge 31, 3) := by decide +kernel
theorem dX8_quarrelTicks_54 : decode cX8_quarrelTicks 54 = .ok (.aload_n 0, 1) := by decide +kernel
theorem dX8_quarrelTicks_55 : decode cX8_quarrelTicks 55 = .ok (.aload_n 1, 1) := by decide +kernel
theorem dX8_quarrelTicks_56 : decode cX8_quarrelTicks 56 = .ok (.iload_n 3, 1) := by decide +kernel
theorem dX8_quarrelTicks_57 : decode cX8_quarrelTicks 57 = .ok (.iload 4, 2) := by decide +kernel
theorem dX8_quarrelTicks_59 : decode cX8_quarrelTicks 59 = .ok (.invokevirtual 43, 3) := by decide +kernel
theorem dX8_quarrelTicks_62 : decode cX8_quarrelTicks 62 = .ok (.ifCond .eq 14, 3) := by decide +kernel
theorem dX8_quarrelTicks_65 : decode cX8_quarrelTicks 65 = .ok (.iload_n 2, 1) := by decide +kernel
theorem dX8_quarrelTicks_66 : decode cX8_quarrelTicks 66 = .ok (.aload_n 0, 1) := by decide +kernel
theorem dX8_quarrelTicks_67 : decode cX8_quarrelTicks 67 = .ok (.aload_n 1, 1) := by decide +kernel
theorem dX8_quarrelTicks_68 : decode cX8_quarrelTicks 68 = .ok (.iload_n 3, 1) := by decide +kernel
theorem dX8_quarrelTicks_69 : decode cX8_quarrelTicks 69 = .ok (.iload 4, 2) := by decide +kernel
theorem dX8_quarrelTicks_71 : decode cX8_quarrelTicks 71 = .ok (.invokevirtual 47, 3) := by decide +kernel
theorem dX8_quarrelTicks_74 : decode cX8_quarrelTicks 74 = .ok (.iadd, 1) := by decide +kernel
theorem dX8_quarrelTicks_75 : decode cX8_quarrelTicks 75 = .ok (.istore_n 2, 1) := by decide +kernel
theorem dX8_quarrelTicks_76 : decode cX8_quarrelTicks 76 = .ok (.iinc 4 1, 3) := by decide +kernel
theorem dX8_quarrelTicks_79 : decode cX8_quarrelTicks 79 = .ok (.goto (-34), 3) := by decide +kernel
theorem dX8_quarrelTicks_82 : decode cX8_quarrelTicks 82 = .ok (.iinc 3 1, 3) := by decide +kernel
theorem dX8_quarrelTicks_85 : decode cX8_quarrelTicks 85 = .ok (.goto (-53), 3) := by decide +kernel
theorem dX8_quarrelTicks_88 : decode cX8_quarrelTicks 88 = .ok (.iload_n 2, 1) := by decide +kernel
theorem dX8_quarrelTicks_89 : decode cX8_quarrelTicks 89 = .ok (.ireturn, 1) := by decide +kernel
theorem dX8_canQuarrel_0 : decode cX8_canQuarrel 0 = .ok (.aload_n 1, 1) := by decide +kernel
theorem dX8_canQuarrel_1 : decode cX8_canQuarrel 1 = .ok (.iload_n 2, 1) := by decide +kernel
theorem dX8_canQuarrel_2 : decode cX8_canQuarrel 2 = .ok (.iload_n 3, 1) := by decide +kernel
theorem dX8_canQuarrel_3 : decode cX8_canQuarrel 3 = .ok (.invokevirtual 51, 3) := by decide +kernel
theorem dX8_canQuarrel_6 : decode cX8_canQuarrel 6 = .ok (.istore 4, 2) := by decide +kernel
theorem dX8_canQuarrel_8 : decode cX8_canQuarrel 8 = .ok (.iload 4, 2) := by decide +kernel
theorem dX8_canQuarrel_10 : decode cX8_canQuarrel 10 = .ok (.ifCond .eq 22, 3) := by decide +kernel
theorem dX8_canQuarrel_13 : decode cX8_canQuarrel 13 = .ok (.aload_n 0, 1) := by decide +kernel
theorem dX8_canQuarrel_14 : decode cX8_canQuarrel 14 = .ok (.getfield 15, 3) := by decide +kernel
theorem dX8_canQuarrel_17 : decode cX8_canQuarrel 17 = .ok (.iload 4, 2) := by decide +kernel
theorem dX8_canQuarrel_19 : decode cX8_canQuarrel 19 = .ok (.bipush 12, 2) := by decide +kernel
theorem dX8_canQuarrel_21 : decode cX8_canQuarrel 21 = .ok (.irem, 1) := by decide +kernel
theorem dX8_canQuarrel_22 : decode cX8_canQuarrel 22 = .ok (.ishr, 1) := by decide +kernel
theorem dX8_canQuarrel_23 : decode cX8_canQuarrel 23 = .ok (.iconst 1, 1) := by decide +kernel
theorem dX8_canQuarrel_24 : decode cX8_canQuarrel 24 = .ok (.iand, 1) := by decide +kernel
theorem dX8_canQuarrel_25 : decode cX8_canQuarrel 25 = .ok (.ifCond .eq 7, 3) := by decide +kernel
theorem dX8_canQuarrel_28 : decode cX8_canQuarrel 28 = .ok (.iconst 1, 1) := by decide +kernel
theorem dX8_canQuarrel_29 : decode cX8_canQuarrel 29 = .ok (.goto 4, 3) := by decide +kernel
theorem dX8_canQuarrel_32 : decode cX8_canQuarrel 32 = .ok (.iconst 0, 1) := by decide +kernel
theorem dX8_canQuarrel_33 : decode cX8_canQuarrel 33 = .ok (.ireturn, 1) := by decide +kernel
theorem dX8_ticksTogether_0 : decode cX8_ticksTogether 0 = .ok (.aload_n 1, 1) := by decide +kernel
theorem dX8_ticksTogether_1 : decode cX8_ticksTogether 1 = .ok (.getfield 30, 3) := by decide +kernel
theorem dX8_ticksTogether_4 : decode cX8_ticksTogether 4 = .ok (.iload_n 2, 1) := by decide +kernel
theorem dX8_ticksTogether_5 : decode cX8_ticksTogether 5 = .ok (.iaload, 1) := by decide +kernel
theorem dX8_ticksTogether_6 : decode cX8_ticksTogether 6 = .ok (.aload_n 0, 1) := by decide +kernel
theorem dX8_ticksTogether_7 : decode cX8_ticksTogether 7 = .ok (.getfield 19, 3) := by decide +kernel
theorem dX8_ticksTogether_10 : decode cX8_ticksTogether 10 = .ok (.iload_n 2, 1) := by decide +kernel
theorem dX8_ticksTogether_11 : decode cX8_ticksTogether 11 = .ok (.iaload, 1) := by decide +kernel
theorem dX8_ticksTogether_12 : decode cX8_ticksTogether 12 = .ok (.iadd, 1) := by decide +kernel
theorem dX8_ticksTogether_13 : decode cX8_ticksTogether 13 = .ok (.istore 4, 2) := by decide +kernel
theorem dX8_ticksTogether_15 : decode cX8_ticksTogether 15 = .ok (.aload_n 1, 1) := by decide +kernel
theorem dX8_ticksTogether_16 : decode cX8_ticksTogether 16 = .ok (.getfield 30, 3) := by decide +kernel
theorem dX8_ticksTogether_19 : decode cX8_ticksTogether 19 = .ok (.iload_n 3, 1) := by decide +kernel
theorem dX8_ticksTogether_20 : decode cX8_ticksTogether 20 = .ok (.iaload, 1) := by decide +kernel
theorem dX8_ticksTogether_21 : decode cX8_ticksTogether 21 = .ok (.aload_n 0, 1) := by decide +kernel
theorem dX8_ticksTogether_22 : decode cX8_ticksTogether 22 = .ok (.getfield 19, 3) := by decide +kernel
theorem dX8_ticksTogether_25 : decode cX8_ticksTogether 25 = .ok (.iload_n 3, 1) := by decide +kernel
theorem dX8_ticksTogether_26 : decode cX8_ticksTogether 26 = .ok (.iaload, 1) := by decide +kernel
theorem dX8_ticksTogether_27 : decode cX8_ticksTogether 27 = .ok (.iadd, 1) := by decide +kernel
theorem dX8_ticksTogether_28 : decode cX8_ticksTogether 28 = .ok (.istore 5, 2) := by decide +kernel
theorem dX8_ticksTogether_30 : decode cX8_ticksTogether 30 = .ok (.iconst 0, 1) := by decide +kernel
theorem dX8_ticksTogether_31 : decode cX8_ticksTogether 31 = .ok (.iload 4, 2) := by decide +kernel
theorem dX8_ticksTogether_33 : decode cX8_ticksTogether 33 = .ok (.iload 5, 2) := by decide +kernel
theorem dX8_ticksTogether_35 : decode cX8_ticksTogether 35 = .ok (.invokestatic 33, 3) := by decide +kernel
theorem dX8_ticksTogether_38 : decode cX8_ticksTogether 38 = .ok (.aload_n 1, 1) := by decide +kernel
theorem dX8_ticksTogether_39 : decode cX8_ticksTogether 39 = .ok (.getfield 30, 3) := by decide +kernel
theorem dX8_ticksTogether_42 : decode cX8_ticksTogether 42 = .ok (.iload_n 3, 1) := by decide +kernel
theorem dX8_ticksTogether_43 : decode cX8_ticksTogether 43 = .ok (.iaload, 1) := by decide +kernel
theorem dX8_ticksTogether_44 : decode cX8_ticksTogether 44 = .ok (.isub, 1) := by decide +kernel
theorem dX8_ticksTogether_45 : decode cX8_ticksTogether 45 = .ok (.invokestatic 54, 3) := by decide +kernel
theorem dX8_ticksTogether_48 : decode cX8_ticksTogether 48 = .ok (.ireturn, 1) := by decide +kernel
theorem dX8_copyFrom_0 : decode cX8_copyFrom 0 = .ok (.aload_n 1, 1) := by decide +kernel
theorem dX8_copyFrom_1 : decode cX8_copyFrom 1 = .ok (.getfield 9, 3) := by decide +kernel
theorem dX8_copyFrom_4 : decode cX8_copyFrom 4 = .ok (.iconst 0, 1) := by decide +kernel
theorem dX8_copyFrom_5 : decode cX8_copyFrom 5 = .ok (.aload_n 0, 1) := by decide +kernel
theorem dX8_copyFrom_6 : decode cX8_copyFrom 6 = .ok (.getfield 9, 3) := by decide +kernel
theorem dX8_copyFrom_9 : decode cX8_copyFrom 9 = .ok (.iconst 0, 1) := by decide +kernel
theorem dX8_copyFrom_10 : decode cX8_copyFrom 10 = .ok (.bipush 24, 2) := by decide +kernel
theorem dX8_copyFrom_12 : decode cX8_copyFrom 12 = .ok (.invokestatic 57, 3) := by decide +kernel
theorem dX8_copyFrom_15 : decode cX8_copyFrom 15 = .ok (.aload_n 0, 1) := by decide +kernel
theorem dX8_copyFrom_16 : decode cX8_copyFrom 16 = .ok (.aload_n 1, 1) := by decide +kernel
theorem dX8_copyFrom_17 : decode cX8_copyFrom 17 = .ok (.getfield 15, 3) := by decide +kernel
theorem dX8_copyFrom_20 : decode cX8_copyFrom 20 = .ok (.putfield 15, 3) := by decide +kernel
theorem dX8_copyFrom_23 : decode cX8_copyFrom 23 = .ok (.return_, 1) := by decide +kernel
theorem dX9_init_0 : decode cX9_init 0 = .ok (.aload_n 0, 1) := by decide +kernel
theorem dX9_init_1 : decode cX9_init 1 = .ok (.invokespecial 3, 3) := by decide +kernel
theorem dX9_init_4 : decode cX9_init 4 = .ok (.aload_n 0, 1) := by decide +kernel
theorem dX9_init_5 : decode cX9_init 5 = .ok (.sipush 2063, 3) := by decide +kernel
theorem dX9_init_8 : decode cX9_init 8 = .ok (.newarray .int, 2) := by decide +kernel
theorem dX9_init_10 : decode cX9_init 10 = .ok (.putfield 9, 3) := by decide +kernel
theorem dX9_init_13 : decode cX9_init 13 = .ok (.return_, 1) := by decide +kernel
theorem dX9_find_0 : decode cX9_find 0 = .ok (.iconst 0, 1) := by decide +kernel
theorem dX9_find_1 : decode cX9_find 1 = .ok (.istore_n 3, 1) := by decide +kernel
theorem dX9_find_2 : decode cX9_find 2 = .ok (.iload_n 3, 1) := by decide +kernel
theorem dX9_find_3 : decode cX9_find 3 = .ok (.aload_n 1, 1) := by decide +kernel
theorem dX9_find_4 : decode cX9_find 4 = .ok (.getfield 15, 3) := by decide +kernel
theorem dX9_find_7 : decode cX9_find 7 = .ok (.if_icmp .ge 16, 3) := by decide +kernel
theorem dX9_find_10 : decode cX9_find 10 = .ok (.aload_n 0, 1) := by decide +kernel
theorem dX9_find_11 : decode cX9_find 11 = .ok (.getfield 9, 3) := by decide +kernel
theorem dX9_find_14 : decode cX9_find 14 = .ok (.iload_n 3, 1) := by decide +kernel
theorem dX9_find_15 : decode cX9_find 15 = .ok (.iconst 0, 1) := by decide +kernel
theorem dX9_find_16 : decode cX9_find 16 = .ok (.iastore, 1) := by decide +kernel
theorem dX9_find_17 : decode cX9_find 17 = .ok (.iinc 3 1, 3) := by decide +kernel
theorem dX9_find_20 : decode cX9_find 20 = .ok (.goto (-18), 3) := by decide +kernel
theorem dX9_find_23 : decode cX9_find 23 = .ok (.iconst 0, 1) := by decide +kernel
theorem dX9_find_24 : decode cX9_find 24 = .ok (.istore_n 3, 1) := by decide +kernel
theorem dX9_find_25 : decode cX9_find 25 = .ok (.iload_n 3, 1) := by decide +kernel
theorem dX9_find_26 : decode cX9_find 26 = .ok (.aload_n 1, 1) := by decide +kernel
theorem dX9_find_27 : decode cX9_find 27 = .ok (.getfield 21, 3) := by decide +kernel
theorem dX9_find_30 : decode cX9_find 30 = .ok (.if_icmp .ge 85, 3) := by decide +kernel
theorem dX9_find_33 : decode cX9_find 33 = .ok (.iconst 0, 1) := by decide +kernel
theorem dX9_find_34 : decode cX9_find 34 = .ok (.istore 4, 2) := by decide +kernel
theorem dX9_find_36 : decode cX9_find 36 = .ok (.iload 4, 2) := by decide +kernel
theorem dX9_find_38 : decode cX9_find 38 = .ok (.aload_n 2, 1) := by decide +kernel
theorem dX9_find_39 : decode cX9_find 39 = .ok (.getfield 24, 3) := by decide +kernel
theorem dX9_find_42 : decode cX9_find 42 = .ok (.if_icmp .ge 67, 3) := by decide +kernel
theorem dX9_find_45 : decode cX9_find 45 = .ok (.aload_n 2, 1) := by decide +kernel
theorem dX9_find_46 : decode cX9_find 46 = .ok (.getfield 27, 3) := by decide +kernel
theorem dX9_find_49 : decode cX9_find 49 = .ok (.iload 4, 2) := by decide +kernel
theorem dX9_find_51 : decode cX9_find 51 = .ok (.iaload, 1) := by decide +kernel
theorem dX9_find_52 : decode cX9_find 52 = .ok (.aload_n 1, 1) := by decide +kernel
theorem dX9_find_53 : decode cX9_find 53 = .ok (.getfield 30, 3) := by decide +kernel
theorem dX9_find_56 : decode cX9_find 56 = .ok (.iload_n 3, 1) := by decide +kernel
theorem dX9_find_57 : decode cX9_find 57 = .ok (.iaload, 1) := by decide +kernel
theorem dX9_find_58 : decode cX9_find 58 = .ok (.if_icmp .ne 45, 3) := by decide +kernel
theorem dX9_find_61 : decode cX9_find 61 = .ok (.aload_n 1, 1) := by decide +kernel
theorem dX9_find_62 : decode cX9_find 62 = .ok (.getfield 33, 3) := by decide +kernel
theorem dX9_find_65 : decode cX9_find 65 = .ok (.iload_n 3, 1) := by decide +kernel
theorem dX9_find_66 : decode cX9_find 66 = .ok (.iaload, 1) := by decide +kernel
theorem dX9_find_67 : decode cX9_find 67 = .ok (.aload_n 2, 1) := by decide +kernel
theorem dX9_find_68 : decode cX9_find 68 = .ok (.getfield 36, 3) := by decide +kernel
theorem dX9_find_71 : decode cX9_find 71 = .ok (.iload 4, 2) := by decide +kernel
theorem dX9_find_73 : decode cX9_find 73 = .ok (.iaload, 1) := by decide +kernel
theorem dX9_find_74 : decode cX9_find 74 = .ok (.isub, 1) := by decide +kernel
theorem dX9_find_75 : decode cX9_find 75 = .ok (.istore 5, 2) := by decide +kernel
theorem dX9_find_77 : decode cX9_find 77 = .ok (.aload_n 0, 1) := by decide +kernel
theorem dX9_find_78 : decode cX9_find 78 = .ok (.getfield 9, 3) := by decide +kernel
theorem dX9_find_81 : decode cX9_find 81 = .ok (.iload 5, 2) := by decide +kernel
theorem dX9_find_83 : decode cX9_find 83 = .ok (.ifCond .ge 13, 3) := by decide +kernel
theorem dX9_find_86 : decode cX9_find 86 = .ok (.iload 5, 2) := by decide +kernel
theorem dX9_find_88 : decode cX9_find 88 = .ok (.aload_n 1, 1) := by decide +kernel
theorem dX9_find_89 : decode cX9_find 89 = .ok (.getfield 15, 3) := by decide +kernel
theorem dX9_find_92 : decode cX9_find 92 = .ok (.iadd, 1) := by decide +kernel
theorem dX9_find_93 : decode cX9_find 93 = .ok (.goto 5, 3) := by decide +kernel
theorem dX9_find_96 : decode cX9_find 96 = .ok (.iload 5, 2) := by decide +kernel
theorem dX9_find_98 : decode cX9_find 98 = .ok (.dup2, 1) := by decide +kernel
theorem dX9_find_99 : decode cX9_find 99 = .ok (.iaload, 1) := by decide +kernel
theorem dX9_find_100 : decode cX9_find 100 = .ok (.iconst 1, 1) := by decide +kernel
theorem dX9_find_101 : decode cX9_find 101 = .ok (.iadd, 1) := by decide +kernel
theorem dX9_find_102 : decode cX9_find 102 = .ok (.iastore, 1) := by decide +kernel
theorem dX9_find_103 : decode cX9_find 103 = .ok (.iinc 4 1, 3) := by decide +kernel
theorem dX9_find_106 : decode cX9_find 106 = .ok (.goto (-70), 3) := by decide +kernel
theorem dX9_find_109 : decode cX9_find 109 = .ok (.iinc 3 1, 3) := by decide +kernel
theorem dX9_find_112 : decode cX9_find 112 = .ok (.goto (-87), 3) := by decide +kernel
theorem dX9_find_115 : decode cX9_find 115 = .ok (.aload_n 0, 1) := by decide +kernel
theorem dX9_find_116 : decode cX9_find 116 = .ok (.iconst 0, 1) := by decide +kernel
theorem dX9_find_117 : decode cX9_find 117 = .ok (.putfield 39, 3) := by decide +kernel
theorem dX9_find_120 : decode cX9_find 120 = .ok (.iconst 1, 1) := by decide +kernel
theorem dX9_find_121 : decode cX9_find 121 = .ok (.istore_n 3, 1) := by decide +kernel
theorem dX9_find_122 : decode cX9_find 122 = .ok (.iload_n 3, 1) := by decide +kernel
theorem dX9_find_123 : decode cX9_find 123 = .ok (.aload_n 1, 1) := by decide +kernel
theorem dX9_find_124 : decode cX9_find 124 = .ok (.getfield 15, 3) := by decide +kernel
theorem dX9_find_127 : decode cX9_find 127 = .ok (.if_icmp .ge 32, 3) := by decide +kernel
theorem dX9_find_130 : decode cX9_find 130 = .ok (.aload_n 0, 1) := by decide +kernel
theorem dX9_find_131 : decode cX9_find 131 = .ok (.getfield 9, 3) := by decide +kernel
theorem dX9_find_134 : decode cX9_find 134 = .ok (.iload_n 3, 1) := by decide +kernel
theorem dX9_find_135 : decode cX9_find 135 = .ok (.iaload, 1) := by decide +kernel
theorem dX9_find_136 : decode cX9_find 136 = .ok (.aload_n 0, 1) := by decide +kernel
theorem dX9_find_137 : decode cX9_find 137 = .ok (.getfield 9, 3) := by decide +kernel
theorem dX9_find_140 : decode cX9_find 140 = .ok (.aload_n 0, 1) := by decide +kernel
theorem dX9_find_141 : decode cX9_find 141 = .ok (.getfield 39, 3) := by decide +kernel
theorem dX9_find_144 : decode cX9_find 144 = .ok (.iaload, 1) := by decide +kernel
theorem dX9_find_145 : decode cX9_find 145 = .ok (.if_icmp .le 8, 3) := by decide +kernel
theorem dX9_find_148 : decode cX9_find 148 = .ok (.aload_n 0, 1) := by decide +kernel
theorem dX9_find_149 : decode cX9_find 149 = .ok (.iload_n 3, 1) := by decide +kernel
theorem dX9_find_150 : decode cX9_find 150 = .ok (.putfield 39, 3) := by decide +kernel
theorem dX9_find_153 : decode cX9_find 153 = .ok (.iinc 3 1, 3) := by decide +kernel
theorem dX9_find_156 : decode cX9_find 156 = .ok (.goto (-34), 3) := by decide +kernel
theorem dX9_find_159 : decode cX9_find 159 = .ok (.aload_n 0, 1) := by decide +kernel
theorem dX9_find_160 : decode cX9_find 160 = .ok (.aload_n 0, 1) := by decide +kernel
theorem dX9_find_161 : decode cX9_find 161 = .ok (.getfield 9, 3) := by decide +kernel
theorem dX9_find_164 : decode cX9_find 164 = .ok (.aload_n 0, 1) := by decide +kernel
theorem dX9_find_165 : decode cX9_find 165 = .ok (.getfield 39, 3) := by decide +kernel
theorem dX9_find_168 : decode cX9_find 168 = .ok (.iaload, 1) := by decide +kernel
theorem dX9_find_169 : decode cX9_find 169 = .ok (.putfield 42, 3) := by decide +kernel
theorem dX9_find_172 : decode cX9_find 172 = .ok (.return_, 1) := by decide +kernel
theorem dX10_init_0 : decode cX10_init 0 = .ok (.aload_n 0, 1) := by decide +kernel
theorem dX10_init_1 : decode cX10_init 1 = .ok (.invokespecial 1, 3) := by decide +kernel
theorem dX10_init_4 : decode cX10_init 4 = .ok (.aload_n 0, 1) := by decide +kernel
theorem dX10_init_5 : decode cX10_init 5 = .ok (.new 7, 3) := by decide +kernel
theorem dX10_init_8 : decode cX10_init 8 = .ok (.dup, 1) := by decide +kernel
theorem dX10_init_9 : decode cX10_init 9 = .ok (.invokespecial 9, 3) := by decide +kernel
theorem dX10_init_12 : decode cX10_init 12 = .ok (.putfield 10, 3) := by decide +kernel
theorem dX10_init_15 : decode cX10_init 15 = .ok (.aload_n 0, 1) := by decide +kernel
theorem dX10_init_16 : decode cX10_init 16 = .ok (.new 16, 3) := by decide +kernel
theorem dX10_init_19 : decode cX10_init 19 = .ok (.dup, 1) := by decide +kernel
theorem dX10_init_20 : decode cX10_init 20 = .ok (.aload_n 0, 1) := by decide +kernel
theorem dX10_init_21 : decode cX10_init 21 = .ok (.getfield 10, 3) := by decide +kernel
theorem dX10_init_24 : decode cX10_init 24 = .ok (.invokespecial 18, 3) := by decide +kernel
theorem dX10_init_27 : decode cX10_init 27 = .ok (.putfield 21, 3) := by decide +kernel
theorem dX10_init_30 : decode cX10_init 30 = .ok (.aload_n 0, 1) := by decide +kernel
theorem dX10_init_31 : decode cX10_init 31 = .ok (.new 25, 3) := by decide +kernel
theorem dX10_init_34 : decode cX10_init 34 = .ok (.dup, 1) := by decide +kernel
theorem dX10_init_35 : decode cX10_init 35 = .ok (.invokespecial 27, 3) := by decide +kernel
theorem dX10_init_38 : decode cX10_init 38 = .ok (.putfield 28, 3) := by decide +kernel
theorem dX10_init_41 : decode cX10_init 41 = .ok (.aload_n 0, 1) := by decide +kernel
theorem dX10_init_42 : decode cX10_init 42 = .ok (.iconst 2, 1) := by decide +kernel
theorem dX10_init_43 : decode cX10_init 43 = .ok (.anewarray 25, 3) := by decide +kernel
theorem dX10_init_46 : decode cX10_init 46 = .ok (.putfield 32, 3) := by decide +kernel
theorem dX10_init_49 : decode cX10_init 49 = .ok (.aload_n 0, 1) := by decide +kernel
theorem dX10_init_50 : decode cX10_init 50 = .ok (.new 36, 3) := by decide +kernel
theorem dX10_init_53 : decode cX10_init 53 = .ok (.dup, 1) := by decide +kernel
theorem dX10_init_54 : decode cX10_init 54 = .ok (.aload_n 0, 1) := by decide +kernel
theorem dX10_init_55 : decode cX10_init 55 = .ok (.getfield 28, 3) := by decide +kernel
theorem dX10_init_58 : decode cX10_init 58 = .ok (.getfield 38, 3) := by decide +kernel
theorem dX10_init_61 : decode cX10_init 61 = .ok (.invokespecial 42, 3) := by decide +kernel
theorem dX10_init_64 : decode cX10_init 64 = .ok (.putfield 45, 3) := by decide +kernel
theorem dX10_init_67 : decode cX10_init 67 = .ok (.aload_n 0, 1) := by decide +kernel
theorem dX10_init_68 : decode cX10_init 68 = .ok (.new 49, 3) := by decide +kernel
theorem dX10_init_71 : decode cX10_init 71 = .ok (.dup, 1) := by decide +kernel
theorem dX10_init_72 : decode cX10_init 72 = .ok (.aload_n 0, 1) := by decide +kernel
theorem dX10_init_73 : decode cX10_init 73 = .ok (.getfield 28, 3) := by decide +kernel
theorem dX10_init_76 : decode cX10_init 76 = .ok (.getfield 38, 3) := by decide +kernel
theorem dX10_init_79 : decode cX10_init 79 = .ok (.invokespecial 51, 3) := by decide +kernel
theorem dX10_init_82 : decode cX10_init 82 = .ok (.putfield 52, 3) := by decide +kernel
theorem dX10_init_85 : decode cX10_init 85 = .ok (.aload_n 0, 1) := by decide +kernel
theorem dX10_init_86 : decode cX10_init 86 = .ok (.new 56, 3) := by decide +kernel
theorem dX10_init_89 : decode cX10_init 89 = .ok (.dup, 1) := by decide +kernel
theorem dX10_init_90 : decode cX10_init 90 = .ok (.invokespecial 58, 3) := by decide +kernel
theorem dX10_init_93 : decode cX10_init 93 = .ok (.putfield 59, 3) := by decide +kernel
theorem dX10_init_96 : decode cX10_init 96 = .ok (.aload_n 0, 1) := by decide +kernel
theorem dX10_init_97 : decode cX10_init 97 = .ok (.iconst 0, 1) := by decide +kernel
theorem dX10_init_98 : decode cX10_init 98 = .ok (.putfield 63, 3) := by decide +kernel
theorem dX10_init_101 : decode cX10_init 101 = .ok (.return_, 1) := by decide +kernel
theorem dX10_feed_0 : decode cX10_feed 0 = .ok (.aload_n 0, 1) := by decide +kernel
theorem dX10_feed_1 : decode cX10_feed 1 = .ok (.getfield 10, 3) := by decide +kernel
theorem dX10_feed_4 : decode cX10_feed 4 = .ok (.invokevirtual 67, 3) := by decide +kernel
theorem dX10_feed_7 : decode cX10_feed 7 = .ok (.ifCond .ne 5, 3) := by decide +kernel
theorem dX10_feed_10 : decode cX10_feed 10 = .ok (.iconst (-1), 1) := by decide +kernel
theorem dX10_feed_11 : decode cX10_feed 11 = .ok (.ireturn, 1) := by decide +kernel
theorem dX10_feed_12 : decode cX10_feed 12 = .ok (.aload_n 0, 1) := by decide +kernel
theorem dX10_feed_13 : decode cX10_feed 13 = .ok (.getfield 10, 3) := by decide +kernel
theorem dX10_feed_16 : decode cX10_feed 16 = .ok (.iload_n 1, 1) := by decide +kernel
theorem dX10_feed_17 : decode cX10_feed 17 = .ok (.invokevirtual 71, 3) := by decide +kernel
theorem dX10_feed_20 : decode cX10_feed 20 = .ok (.aload_n 0, 1) := by decide +kernel
theorem dX10_feed_21 : decode cX10_feed 21 = .ok (.getfield 10, 3) := by decide +kernel
theorem dX10_feed_24 : decode cX10_feed 24 = .ok (.iload_n 2, 1) := by decide +kernel
theorem dX10_feed_25 : decode cX10_feed 25 = .ok (.invokevirtual 71, 3) := by decide +kernel
theorem dX10_feed_28 : decode cX10_feed 28 = .ok (.aload_n 0, 1) := by decide +kernel
theorem dX10_feed_29 : decode cX10_feed 29 = .ok (.getfield 10, 3) := by decide +kernel
theorem dX10_feed_32 : decode cX10_feed 32 = .ok (.iload_n 3, 1) := by decide +kernel
theorem dX10_feed_33 : decode cX10_feed 33 = .ok (.invokevirtual 71, 3) := by decide +kernel
theorem dX10_feed_36 : decode cX10_feed 36 = .ok (.aload_n 0, 1) := by decide +kernel
theorem dX10_feed_37 : decode cX10_feed 37 = .ok (.getfield 10, 3) := by decide +kernel
theorem dX10_feed_40 : decode cX10_feed 40 = .ok (.iload 4, 2) := by decide +kernel
theorem dX10_feed_42 : decode cX10_feed 42 = .ok (.invokevirtual 71, 3) := by decide +kernel
theorem dX10_feed_45 : decode cX10_feed 45 = .ok (.aload_n 0, 1) := by decide +kernel
theorem dX10_feed_46 : decode cX10_feed 46 = .ok (.getfield 10, 3) := by decide +kernel
theorem dX10_feed_49 : decode cX10_feed 49 = .ok (.iload 5, 2) := by decide +kernel
theorem dX10_feed_51 : decode cX10_feed 51 = .ok (.invokevirtual 71, 3) := by decide +kernel
theorem dX10_feed_54 : decode cX10_feed 54 = .ok (.aload_n 0, 1) := by decide +kernel
theorem dX10_feed_55 : decode cX10_feed 55 = .ok (.getfield 10, 3) := by decide +kernel
theorem dX10_feed_58 : decode cX10_feed 58 = .ok (.getfield 75, 3) := by decide +kernel
theorem dX10_feed_61 : decode cX10_feed 61 = .ok (.ireturn, 1) := by decide +kernel
theorem dX10_end_0 : decode cX10_end 0 = .ok (.iload_n 1, 1) := by decide +kernel
theorem dX10_end_1 : decode cX10_end 1 = .ok (.ifCond .lt 14, 3) := by decide +kernel
theorem dX10_end_4 : decode cX10_end 4 = .ok (.iload_n 1, 1) := by decide +kernel
theorem dX10_end_5 : decode cX10_end 5 = .ok (.aload_n 0, 1) := by decide +kernel
theorem dX10_end_6 : decode cX10_end 6 = .ok (.getfield 10, 3) := by decide +kernel
theorem dX10_end_9 : decode cX10_end 9 = .ok (.getfield 75, 3) := by decide +kernel
theorem dX10_end_12 : decode cX10_end 12 = .ok (.if_icmp .le 5, 3) := by decide +kernel
theorem dX10_end_15 : decode cX10_end 15 = .ok (.iconst 0, 1) := by decide +kernel
theorem dX10_end_16 : decode cX10_end 16 = .ok (.ireturn, 1) := by decide +kernel
theorem dX10_end_17 : decode cX10_end 17 = .ok (.aload_n 0, 1) := by decide +kernel
theorem dX10_end_18 : decode cX10_end 18 = .ok (.getfield 10, 3) := by decide +kernel
theorem dX10_end_21 : decode cX10_end 21 = .ok (.iload_n 1, 1) := by decide +kernel
theorem dX10_end_22 : decode cX10_end 22 = .ok (.putfield 75, 3) := by decide +kernel
theorem dX10_end_25 : decode cX10_end 25 = .ok (.iconst 1, 1) := by decide +kernel
theorem dX10_end_26 : decode cX10_end 26 = .ok (.ireturn, 1) := by decide +kernel
theorem dX10_score_0 : decode cX10_score 0 = .ok (.aload_n 0, 1) := by decide +kernel
theorem dX10_score_1 : decode cX10_score 1 = .ok (.getfield 21, 3) := by decide +kernel
theorem dX10_score_4 : decode cX10_score 4 = .ok (.invokevirtual 79, 3) := by decide +kernel
theorem dX10_score_7 : decode cX10_score 7 = .ok (.istore_n 1, 1) := by decide +kernel
theorem dX10_score_8 : decode cX10_score 8 = .ok (.aload_n 0, 1) := by decide +kernel
theorem dX10_score_9 : decode cX10_score 9 = .ok (.getfield 10, 3) := by decide +kernel
theorem dX10_score_12 : decode cX10_score 12 = .ok (.iconst 0, 1) := by decide +kernel
theorem dX10_score_13 : decode cX10_score 13 = .ok (.putfield 75, 3) := by decide +kernel
theorem dX10_score_16 : decode cX10_score 16 = .ok (.aload_n 0, 1) := by decide +kernel
theorem dX10_score_17 : decode cX10_score 17 = .ok (.getfield 28, 3) := by decide +kernel
theorem dX10_score_20 : decode cX10_score 20 = .ok (.aload_n 0, 1) := by decide +kernel
theorem dX10_score_21 : decode cX10_score 21 = .ok (.getfield 21, 3) := by decide +kernel
theorem dX10_score_24 : decode cX10_score 24 = .ok (.getfield 82, 3) := by decide +kernel
theorem dX10_score_27 : decode cX10_score 27 = .ok (.putfield 85, 3) := by decide +kernel
theorem dX10_score_30 : decode cX10_score 30 = .ok (.aload_n 0, 1) := by decide +kernel
theorem dX10_score_31 : decode cX10_score 31 = .ok (.getfield 28, 3) := by decide +kernel
theorem dX10_score_34 : decode cX10_score 34 = .ok (.aload_n 0, 1) := by decide +kernel
theorem dX10_score_35 : decode cX10_score 35 = .ok (.getfield 21, 3) := by decide +kernel
theorem dX10_score_38 : decode cX10_score 38 = .ok (.getfield 86, 3) := by decide +kernel
theorem dX10_score_41 : decode cX10_score 41 = .ok (.putfield 89, 3) := by decide +kernel
theorem dX10_score_44 : decode cX10_score 44 = .ok (.iload_n 1, 1) := by decide +kernel
theorem dX10_score_45 : decode cX10_score 45 = .ok (.ifCond .ne 5, 3) := by decide +kernel
theorem dX10_score_48 : decode cX10_score 48 = .ok (.iconst (-1), 1) := by decide +kernel
theorem dX10_score_49 : decode cX10_score 49 = .ok (.ireturn, 1) := by decide +kernel
theorem dX10_score_50 : decode cX10_score 50 = .ok (.aload_n 0, 1) := by decide +kernel
theorem dX10_score_51 : decode cX10_score 51 = .ok (.getfield 28, 3) := by decide +kernel
theorem dX10_score_54 : decode cX10_score 54 = .ok (.getfield 38, 3) := by decide +kernel
theorem dX10_score_57 : decode cX10_score 57 = .ok (.aload_n 0, 1) := by decide +kernel
theorem dX10_score_58 : decode cX10_score 58 = .ok (.getfield 21, 3) := by decide +kernel
theorem dX10_score_61 : decode cX10_score 61 = .ok (.getfield 90, 3) := by decide +kernel
theorem dX10_score_64 : decode cX10_score 64 = .ok (.invokevirtual 93, 3) := by decide +kernel
theorem dX10_score_67 : decode cX10_score 67 = .ok (.aload_n 0, 1) := by decide +kernel
theorem dX10_score_68 : decode cX10_score 68 = .ok (.iconst 0, 1) := by decide +kernel
theorem dX10_score_69 : decode cX10_score 69 = .ok (.putfield 63, 3) := by decide +kernel
theorem dX10_score_72 : decode cX10_score 72 = .ok (.aload_n 0, 1) := by decide +kernel
theorem dX10_score_73 : decode cX10_score 73 = .ok (.getfield 28, 3) := by decide +kernel
theorem dX10_score_76 : decode cX10_score 76 = .ok (.getfield 38, 3) := by decide +kernel
theorem dX10_score_79 : decode cX10_score 79 = .ok (.getfield 98, 3) := by decide +kernel
theorem dX10_score_82 : decode cX10_score 82 = .ok (.ireturn, 1) := by decide +kernel
theorem dX10_fault_0 : decode cX10_fault 0 = .ok (.iload_n 1, 1) := by decide +kernel
theorem dX10_fault_1 : decode cX10_fault 1 = .ok (.lookupswitch 43 #[(0, 27), (1, 35)], 27) := by decide +kernel
theorem dX10_fault_28 : decode cX10_fault 28 = .ok (.aload_n 0, 1) := by decide +kernel
theorem dX10_fault_29 : decode cX10_fault 29 = .ok (.getfield 28, 3) := by decide +kernel
theorem dX10_fault_32 : decode cX10_fault 32 = .ok (.getfield 85, 3) := by decide +kernel
theorem dX10_fault_35 : decode cX10_fault 35 = .ok (.ireturn, 1) := by decide +kernel
theorem dX10_fault_36 : decode cX10_fault 36 = .ok (.aload_n 0, 1) := by decide +kernel
theorem dX10_fault_37 : decode cX10_fault 37 = .ok (.getfield 28, 3) := by decide +kernel
theorem dX10_fault_40 : decode cX10_fault 40 = .ok (.getfield 89, 3) := by decide +kernel
theorem dX10_fault_43 : decode cX10_fault 43 = .ok (.ireturn, 1) := by decide +kernel
theorem dX10_fault_44 : decode cX10_fault 44 = .ok (.iconst (-1), 1) := by decide +kernel
theorem dX10_fault_45 : decode cX10_fault 45 = .ok (.ireturn, 1) := by decide +kernel
theorem dX10_strike_0 : decode cX10_strike 0 = .ok (.aload_n 0, 1) := by decide +kernel
theorem dX10_strike_1 : decode cX10_strike 1 = .ok (.getfield 28, 3) := by decide +kernel
theorem dX10_strike_4 : decode cX10_strike 4 = .ok (.getfield 38, 3) := by decide +kernel
theorem dX10_strike_7 : decode cX10_strike 7 = .ok (.iload_n 1, 1) := by decide +kernel
theorem dX10_strike_8 : decode cX10_strike 8 = .ok (.invokevirtual 99, 3) := by decide +kernel
theorem dX10_strike_11 : decode cX10_strike 11 = .ok (.ifCond .ne 5, 3) := by decide +kernel
theorem dX10_strike_14 : decode cX10_strike 14 = .ok (.iconst (-1), 1) := by decide +kernel
theorem dX10_strike_15 : decode cX10_strike 15 = .ok (.ireturn, 1) := by decide +kernel
theorem dX10_strike_16 : decode cX10_strike 16 = .ok (.iload_n 2, 1) := by decide +kernel
theorem dX10_strike_17 : decode cX10_strike 17 = .ok (.lookupswitch 53 #[(0, 27), (1, 40)], 27) := by decide +kernel
theorem dX10_strike_44 : decode cX10_strike 44 = .ok (.aload_n 0, 1) := by decide +kernel
theorem dX10_strike_45 : decode cX10_strike 45 = .ok (.getfield 28, 3) := by decide +kernel
theorem dX10_strike_48 : decode cX10_strike 48 = .ok (.getfield 38, 3) := by decide +kernel
theorem dX10_strike_51 : decode cX10_strike 51 = .ok (.getfield 103, 3) := by decide +kernel
theorem dX10_strike_54 : decode cX10_strike 54 = .ok (.iload_n 1, 1) := by decide +kernel
theorem dX10_strike_55 : decode cX10_strike 55 = .ok (.iaload, 1) := by decide +kernel
theorem dX10_strike_56 : decode cX10_strike 56 = .ok (.ireturn, 1) := by decide +kernel
theorem dX10_strike_57 : decode cX10_strike 57 = .ok (.aload_n 0, 1) := by decide +kernel
theorem dX10_strike_58 : decode cX10_strike 58 = .ok (.getfield 28, 3) := by decide +kernel
theorem dX10_strike_61 : decode cX10_strike 61 = .ok (.getfield 38, 3) := by decide +kernel
theorem dX10_strike_64 : decode cX10_strike 64 = .ok (.getfield 107, 3) := by decide +kernel
theorem dX10_strike_67 : decode cX10_strike 67 = .ok (.iload_n 1, 1) := by decide +kernel
theorem dX10_strike_68 : decode cX10_strike 68 = .ok (.iaload, 1) := by decide +kernel
theorem dX10_strike_69 : decode cX10_strike 69 = .ok (.ireturn, 1) := by decide +kernel
theorem dX10_strike_70 : decode cX10_strike 70 = .ok (.iconst (-1), 1) := by decide +kernel
theorem dX10_strike_71 : decode cX10_strike 71 = .ok (.ireturn, 1) := by decide +kernel
theorem dX10_count_0 : decode cX10_count 0 = .ok (.iload_n 1, 1) := by decide +kernel
theorem dX10_count_1 : decode cX10_count 1 = .ok (.tableswitch 57 0 2 #[27, 38, 49], 27) := by decide +kernel
theorem dX10_count_28 : decode cX10_count 28 = .ok (.aload_n 0, 1) := by decide +kernel
theorem dX10_count_29 : decode cX10_count 29 = .ok (.getfield 28, 3) := by decide +kernel
theorem dX10_count_32 : decode cX10_count 32 = .ok (.getfield 38, 3) := by decide +kernel
theorem dX10_count_35 : decode cX10_count 35 = .ok (.getfield 98, 3) := by decide +kernel
theorem dX10_count_38 : decode cX10_count 38 = .ok (.ireturn, 1) := by decide +kernel
theorem dX10_count_39 : decode cX10_count 39 = .ok (.aload_n 0, 1) := by decide +kernel
theorem dX10_count_40 : decode cX10_count 40 = .ok (.getfield 28, 3) := by decide +kernel
theorem dX10_count_43 : decode cX10_count 43 = .ok (.getfield 38, 3) := by decide +kernel
theorem dX10_count_46 : decode cX10_count 46 = .ok (.getfield 110, 3) := by decide +kernel
theorem dX10_count_49 : decode cX10_count 49 = .ok (.ireturn, 1) := by decide +kernel
theorem dX10_count_50 : decode cX10_count 50 = .ok (.aload_n 0, 1) := by decide +kernel
theorem dX10_count_51 : decode cX10_count 51 = .ok (.invokevirtual 113, 3) := by decide +kernel
theorem dX10_count_54 : decode cX10_count 54 = .ok (.getfield 117, 3) := by decide +kernel
theorem dX10_count_57 : decode cX10_count 57 = .ok (.ireturn, 1) := by decide +kernel
theorem dX10_count_58 : decode cX10_count 58 = .ok (.iconst (-1), 1) := by decide +kernel
theorem dX10_count_59 : decode cX10_count 59 = .ok (.ireturn, 1) := by decide +kernel
theorem dX10_fists_0 : decode cX10_fists 0 = .ok (.iload_n 1, 1) := by decide +kernel
theorem dX10_fists_1 : decode cX10_fists 1 = .ok (.iconst 1, 1) := by decide +kernel
theorem dX10_fists_2 : decode cX10_fists 2 = .ok (.if_icmp .lt 20, 3) := by decide +kernel
theorem dX10_fists_5 : decode cX10_fists 5 = .ok (.iload_n 1, 1) := by decide +kernel
theorem dX10_fists_6 : decode cX10_fists 6 = .ok (.bipush 24, 2) := by decide +kernel
theorem dX10_fists_8 : decode cX10_fists 8 = .ok (.if_icmp .gt 14, 3) := by decide +kernel
theorem dX10_fists_11 : decode cX10_fists 11 = .ok (.iload_n 2, 1) := by decide +kernel
theorem dX10_fists_12 : decode cX10_fists 12 = .ok (.ifCond .lt 10, 3) := by decide +kernel
theorem dX10_fists_15 : decode cX10_fists 15 = .ok (.iload_n 2, 1) := by decide +kernel
theorem dX10_fists_16 : decode cX10_fists 16 = .ok (.sipush 10000, 3) := by decide +kernel
theorem dX10_fists_19 : decode cX10_fists 19 = .ok (.if_icmp .le 5, 3) := by decide +kernel
theorem dX10_fists_22 : decode cX10_fists 22 = .ok (.iconst 0, 1) := by decide +kernel
theorem dX10_fists_23 : decode cX10_fists 23 = .ok (.ireturn, 1) := by decide +kernel
theorem dX10_fists_24 : decode cX10_fists 24 = .ok (.aload_n 0, 1) := by decide +kernel
theorem dX10_fists_25 : decode cX10_fists 25 = .ok (.getfield 28, 3) := by decide +kernel
theorem dX10_fists_28 : decode cX10_fists 28 = .ok (.iload_n 1, 1) := by decide +kernel
theorem dX10_fists_29 : decode cX10_fists 29 = .ok (.putfield 120, 3) := by decide +kernel
theorem dX10_fists_32 : decode cX10_fists 32 = .ok (.aload_n 0, 1) := by decide +kernel
theorem dX10_fists_33 : decode cX10_fists 33 = .ok (.getfield 28, 3) := by decide +kernel
theorem dX10_fists_36 : decode cX10_fists 36 = .ok (.iload_n 2, 1) := by decide +kernel
theorem dX10_fists_37 : decode cX10_fists 37 = .ok (.putfield 123, 3) := by decide +kernel
theorem dX10_fists_40 : decode cX10_fists 40 = .ok (.aload_n 0, 1) := by decide +kernel
theorem dX10_fists_41 : decode cX10_fists 41 = .ok (.iconst 0, 1) := by decide +kernel
theorem dX10_fists_42 : decode cX10_fists 42 = .ok (.putfield 63, 3) := by decide +kernel
theorem dX10_fists_45 : decode cX10_fists 45 = .ok (.iconst 1, 1) := by decide +kernel
theorem dX10_fists_46 : decode cX10_fists 46 = .ok (.ireturn, 1) := by decide +kernel
theorem dX10_cost_0 : decode cX10_cost 0 = .ok (.aload_n 0, 1) := by decide +kernel
theorem dX10_cost_1 : decode cX10_cost 1 = .ok (.invokevirtual 113, 3) := by decide +kernel
theorem dX10_cost_4 : decode cX10_cost 4 = .ok (.getfield 126, 3) := by decide +kernel
theorem dX10_cost_7 : decode cX10_cost 7 = .ok (.ireturn, 1) := by decide +kernel
theorem dX10_need_0 : decode cX10_need 0 = .ok (.aload_n 0, 1) := by decide +kernel
theorem dX10_need_1 : decode cX10_need 1 = .ok (.getfield 52, 3) := by decide +kernel
theorem dX10_need_4 : decode cX10_need 4 = .ok (.invokevirtual 129, 3) := by decide +kernel
theorem dX10_need_7 : decode cX10_need 7 = .ok (.ireturn, 1) := by decide +kernel
theorem dX10_by_0 : decode cX10_by 0 = .ok (.aload_n 0, 1) := by decide +kernel
theorem dX10_by_1 : decode cX10_by 1 = .ok (.getfield 28, 3) := by decide +kernel
theorem dX10_by_4 : decode cX10_by 4 = .ok (.getfield 38, 3) := by decide +kernel
theorem dX10_by_7 : decode cX10_by 7 = .ok (.iload_n 1, 1) := by decide +kernel
theorem dX10_by_8 : decode cX10_by 8 = .ok (.invokevirtual 99, 3) := by decide +kernel
theorem dX10_by_11 : decode cX10_by 11 = .ok (.ifCond .ne 5, 3) := by decide +kernel
theorem dX10_by_14 : decode cX10_by 14 = .ok (.iconst (-1), 1) := by decide +kernel
theorem dX10_by_15 : decode cX10_by 15 = .ok (.ireturn, 1) := by decide +kernel
theorem dX10_by_16 : decode cX10_by 16 = .ok (.aload_n 0, 1) := by decide +kernel
theorem dX10_by_17 : decode cX10_by 17 = .ok (.invokevirtual 113, 3) := by decide +kernel
theorem dX10_by_20 : decode cX10_by 20 = .ok (.getfield 133, 3) := by decide +kernel
theorem dX10_by_23 : decode cX10_by 23 = .ok (.iload_n 1, 1) := by decide +kernel
theorem dX10_by_24 : decode cX10_by 24 = .ok (.iaload, 1) := by decide +kernel
theorem dX10_by_25 : decode cX10_by 25 = .ok (.ireturn, 1) := by decide +kernel
theorem dX10_way_0 : decode cX10_way 0 = .ok (.iload_n 1, 1) := by decide +kernel
theorem dX10_way_1 : decode cX10_way 1 = .ok (.ifCond .eq 10, 3) := by decide +kernel
theorem dX10_way_4 : decode cX10_way 4 = .ok (.iload_n 1, 1) := by decide +kernel
theorem dX10_way_5 : decode cX10_way 5 = .ok (.iconst 1, 1) := by decide +kernel
theorem dX10_way_6 : decode cX10_way 6 = .ok (.if_icmp .eq 5, 3) := by decide +kernel
theorem dX10_way_9 : decode cX10_way 9 = .ok (.iconst (-1), 1) := by decide +kernel
theorem dX10_way_10 : decode cX10_way 10 = .ok (.ireturn, 1) := by decide +kernel
theorem dX10_way_11 : decode cX10_way 11 = .ok (.aload_n 0, 1) := by decide +kernel
theorem dX10_way_12 : decode cX10_way 12 = .ok (.invokevirtual 113, 3) := by decide +kernel
theorem dX10_way_15 : decode cX10_way 15 = .ok (.getfield 136, 3) := by decide +kernel
theorem dX10_way_18 : decode cX10_way 18 = .ok (.iload_n 1, 1) := by decide +kernel
theorem dX10_way_19 : decode cX10_way 19 = .ok (.iaload, 1) := by decide +kernel
theorem dX10_way_20 : decode cX10_way 20 = .ok (.ireturn, 1) := by decide +kernel
theorem dX10_tail_0 : decode cX10_tail 0 = .ok (.iload_n 1, 1) := by decide +kernel
theorem dX10_tail_1 : decode cX10_tail 1 = .ok (.invokestatic 139, 3) := by decide +kernel
theorem dX10_tail_4 : decode cX10_tail 4 = .ok (.ifCond .eq 14, 3) := by decide +kernel
theorem dX10_tail_7 : decode cX10_tail 7 = .ok (.iload_n 2, 1) := by decide +kernel
theorem dX10_tail_8 : decode cX10_tail 8 = .ok (.iconst 1, 1) := by decide +kernel
theorem dX10_tail_9 : decode cX10_tail 9 = .ok (.if_icmp .lt 9, 3) := by decide +kernel
theorem dX10_tail_12 : decode cX10_tail 12 = .ok (.iload_n 2, 1) := by decide +kernel
theorem dX10_tail_13 : decode cX10_tail 13 = .ok (.bipush 60, 2) := by decide +kernel
theorem dX10_tail_15 : decode cX10_tail 15 = .ok (.if_icmp .le 5, 3) := by decide +kernel
theorem dX10_tail_18 : decode cX10_tail 18 = .ok (.iconst (-1), 1) := by decide +kernel
theorem dX10_tail_19 : decode cX10_tail 19 = .ok (.ireturn, 1) := by decide +kernel
theorem dX10_tail_20 : decode cX10_tail 20 = .ok (.aload_n 0, 1) := by decide +kernel
theorem dX10_tail_21 : decode cX10_tail 21 = .ok (.getfield 28, 3) := by decide +kernel
theorem dX10_tail_24 : decode cX10_tail 24 = .ok (.getfield 142, 3) := by decide +kernel
theorem dX10_tail_27 : decode cX10_tail 27 = .ok (.getfield 146, 3) := by decide +kernel
theorem dX10_tail_30 : decode cX10_tail 30 = .ok (.iload_n 1, 1) := by decide +kernel
theorem dX10_tail_31 : decode cX10_tail 31 = .ok (.iaload, 1) := by decide +kernel
theorem dX10_tail_32 : decode cX10_tail 32 = .ok (.istore_n 3, 1) := by decide +kernel
theorem dX10_tail_33 : decode cX10_tail 33 = .ok (.aload_n 0, 1) := by decide +kernel
theorem dX10_tail_34 : decode cX10_tail 34 = .ok (.getfield 28, 3) := by decide +kernel
theorem dX10_tail_37 : decode cX10_tail 37 = .ok (.getfield 142, 3) := by decide +kernel
theorem dX10_tail_40 : decode cX10_tail 40 = .ok (.getfield 146, 3) := by decide +kernel
theorem dX10_tail_43 : decode cX10_tail 43 = .ok (.iload_n 1, 1) := by decide +kernel
theorem dX10_tail_44 : decode cX10_tail 44 = .ok (.iload_n 2, 1) := by decide +kernel
theorem dX10_tail_45 : decode cX10_tail 45 = .ok (.iastore, 1) := by decide +kernel
theorem dX10_tail_46 : decode cX10_tail 46 = .ok (.iload_n 3, 1) := by decide +kernel
theorem dX10_tail_47 : decode cX10_tail 47 = .ok (.ireturn, 1) := by decide +kernel
theorem dX10_quarrel_0 : decode cX10_quarrel 0 = .ok (.iload_n 1, 1) := by decide +kernel
theorem dX10_quarrel_1 : decode cX10_quarrel 1 = .ok (.ifCond .lt 10, 3) := by decide +kernel
theorem dX10_quarrel_4 : decode cX10_quarrel 4 = .ok (.iload_n 1, 1) := by decide +kernel
theorem dX10_quarrel_5 : decode cX10_quarrel 5 = .ok (.sipush 4095, 3) := by decide +kernel
theorem dX10_quarrel_8 : decode cX10_quarrel 8 = .ok (.if_icmp .le 5, 3) := by decide +kernel
theorem dX10_quarrel_11 : decode cX10_quarrel 11 = .ok (.iconst (-1), 1) := by decide +kernel
theorem dX10_quarrel_12 : decode cX10_quarrel 12 = .ok (.ireturn, 1) := by decide +kernel
theorem dX10_quarrel_13 : decode cX10_quarrel 13 = .ok (.aload_n 0, 1) := by decide +kernel
theorem dX10_quarrel_14 : decode cX10_quarrel 14 = .ok (.getfield 28, 3) := by decide +kernel
theorem dX10_quarrel_17 : decode cX10_quarrel 17 = .ok (.getfield 142, 3) := by decide +kernel
theorem dX10_quarrel_20 : decode cX10_quarrel 20 = .ok (.getfield 151, 3) := by decide +kernel
theorem dX10_quarrel_23 : decode cX10_quarrel 23 = .ok (.istore_n 2, 1) := by decide +kernel
theorem dX10_quarrel_24 : decode cX10_quarrel 24 = .ok (.aload_n 0, 1) := by decide +kernel
theorem dX10_quarrel_25 : decode cX10_quarrel 25 = .ok (.getfield 28, 3) := by decide +kernel
theorem dX10_quarrel_28 : decode cX10_quarrel 28 = .ok (.getfield 142, 3) := by decide +kernel
theorem dX10_quarrel_31 : decode cX10_quarrel 31 = .ok (.iload_n 1, 1) := by decide +kernel
theorem dX10_quarrel_32 : decode cX10_quarrel 32 = .ok (.putfield 151, 3) := by decide +kernel
theorem dX10_quarrel_35 : decode cX10_quarrel 35 = .ok (.iload_n 2, 1) := by decide +kernel
theorem dX10_quarrel_36 : decode cX10_quarrel 36 = .ok (.ireturn, 1) := by decide +kernel
theorem dX10_quarrels_0 : decode cX10_quarrels 0 = .ok (.aload_n 0, 1) := by decide +kernel
theorem dX10_quarrels_1 : decode cX10_quarrels 1 = .ok (.getfield 28, 3) := by decide +kernel
theorem dX10_quarrels_4 : decode cX10_quarrels 4 = .ok (.getfield 142, 3) := by decide +kernel
theorem dX10_quarrels_7 : decode cX10_quarrels 7 = .ok (.aload_n 0, 1) := by decide +kernel
theorem dX10_quarrels_8 : decode cX10_quarrels 8 = .ok (.getfield 28, 3) := by decide +kernel
theorem dX10_quarrels_11 : decode cX10_quarrels 11 = .ok (.getfield 38, 3) := by decide +kernel
theorem dX10_quarrels_14 : decode cX10_quarrels 14 = .ok (.invokevirtual 154, 3) := by decide +kernel
theorem dX10_quarrels_17 : decode cX10_quarrels 17 = .ok (.ireturn, 1) := by decide +kernel
theorem dX10_sounds_0 : decode cX10_sounds 0 = .ok (.aload_n 0, 1) := by decide +kernel
theorem dX10_sounds_1 : decode cX10_sounds 1 = .ok (.getfield 28, 3) := by decide +kernel
theorem dX10_sounds_4 : decode cX10_sounds 4 = .ok (.getfield 38, 3) := by decide +kernel
theorem dX10_sounds_7 : decode cX10_sounds 7 = .ok (.iload_n 1, 1) := by decide +kernel
theorem dX10_sounds_8 : decode cX10_sounds 8 = .ok (.invokevirtual 99, 3) := by decide +kernel
theorem dX10_sounds_11 : decode cX10_sounds 11 = .ok (.ifCond .ne 5, 3) := by decide +kernel
theorem dX10_sounds_14 : decode cX10_sounds 14 = .ok (.iconst (-1), 1) := by decide +kernel
theorem dX10_sounds_15 : decode cX10_sounds 15 = .ok (.ireturn, 1) := by decide +kernel
theorem dX10_sounds_16 : decode cX10_sounds 16 = .ok (.aload_n 0, 1) := by decide +kernel
theorem dX10_sounds_17 : decode cX10_sounds 17 = .ok (.getfield 28, 3) := by decide +kernel
theorem dX10_sounds_20 : decode cX10_sounds 20 = .ok (.getfield 142, 3) := by decide +kernel
theorem dX10_sounds_23 : decode cX10_sounds 23 = .ok (.aload_n 0, 1) := by decide +kernel
theorem dX10_sounds_24 : decode cX10_sounds 24 = .ok (.getfield 28, 3) := by decide +kernel
theorem dX10_sounds_27 : decode cX10_sounds 27 = .ok (.getfield 38, 3) := by decide +kernel
theorem dX10_sounds_30 : decode cX10_sounds 30 = .ok (.iload_n 1, 1) := by decide +kernel
theorem dX10_sounds_31 : decode cX10_sounds 31 = .ok (.invokevirtual 158, 3) := by decide +kernel
theorem dX10_sounds_34 : decode cX10_sounds 34 = .ok (.ireturn, 1) := by decide +kernel
theorem dX10_drum_0 : decode cX10_drum 0 = .ok (.iload_n 1, 1) := by decide +kernel
theorem dX10_drum_1 : decode cX10_drum 1 = .ok (.iconst 1, 1) := by decide +kernel
theorem dX10_drum_2 : decode cX10_drum 2 = .ok (.if_icmp .lt 10, 3) := by decide +kernel
theorem dX10_drum_5 : decode cX10_drum 5 = .ok (.iload_n 1, 1) := by decide +kernel
theorem dX10_drum_6 : decode cX10_drum 6 = .ok (.sipush 2063, 3) := by decide +kernel
theorem dX10_drum_9 : decode cX10_drum 9 = .ok (.if_icmp .le 5, 3) := by decide +kernel
theorem dX10_drum_12 : decode cX10_drum 12 = .ok (.iconst 0, 1) := by decide +kernel
theorem dX10_drum_13 : decode cX10_drum 13 = .ok (.ireturn, 1) := by decide +kernel
theorem dX10_drum_14 : decode cX10_drum 14 = .ok (.aload_n 0, 1) := by decide +kernel
theorem dX10_drum_15 : decode cX10_drum 15 = .ok (.getfield 28, 3) := by decide +kernel
theorem dX10_drum_18 : decode cX10_drum 18 = .ok (.getfield 162, 3) := by decide +kernel
theorem dX10_drum_21 : decode cX10_drum 21 = .ok (.iload_n 1, 1) := by decide +kernel
theorem dX10_drum_22 : decode cX10_drum 22 = .ok (.invokevirtual 166, 3) := by decide +kernel
theorem dX10_drum_25 : decode cX10_drum 25 = .ok (.iconst 1, 1) := by decide +kernel
theorem dX10_drum_26 : decode cX10_drum 26 = .ok (.ireturn, 1) := by decide +kernel
theorem dX10_change_0 : decode cX10_change 0 = .ok (.aload_n 0, 1) := by decide +kernel
theorem dX10_change_1 : decode cX10_change 1 = .ok (.getfield 28, 3) := by decide +kernel
theorem dX10_change_4 : decode cX10_change 4 = .ok (.getfield 162, 3) := by decide +kernel
theorem dX10_change_7 : decode cX10_change 7 = .ok (.aload_n 0, 1) := by decide +kernel
theorem dX10_change_8 : decode cX10_change 8 = .ok (.getfield 28, 3) := by decide +kernel
theorem dX10_change_11 : decode cX10_change 11 = .ok (.getfield 38, 3) := by decide +kernel
theorem dX10_change_14 : decode cX10_change 14 = .ok (.invokevirtual 171, 3) := by decide +kernel
theorem dX10_change_17 : decode cX10_change 17 = .ok (.ifCond .ne 5, 3) := by decide +kernel
theorem dX10_change_20 : decode cX10_change 20 = .ok (.iconst (-1), 1) := by decide +kernel
theorem dX10_change_21 : decode cX10_change 21 = .ok (.ireturn, 1) := by decide +kernel
theorem dX10_change_22 : decode cX10_change 22 = .ok (.aload_n 0, 1) := by decide +kernel
theorem dX10_change_23 : decode cX10_change 23 = .ok (.getfield 59, 3) := by decide +kernel
theorem dX10_change_26 : decode cX10_change 26 = .ok (.aload_n 0, 1) := by decide +kernel
theorem dX10_change_27 : decode cX10_change 27 = .ok (.getfield 28, 3) := by decide +kernel
theorem dX10_change_30 : decode cX10_change 30 = .ok (.getfield 162, 3) := by decide +kernel
theorem dX10_change_33 : decode cX10_change 33 = .ok (.aload_n 0, 1) := by decide +kernel
theorem dX10_change_34 : decode cX10_change 34 = .ok (.getfield 28, 3) := by decide +kernel
theorem dX10_change_37 : decode cX10_change 37 = .ok (.getfield 38, 3) := by decide +kernel
theorem dX10_change_40 : decode cX10_change 40 = .ok (.invokevirtual 175, 3) := by decide +kernel
theorem dX10_change_43 : decode cX10_change 43 = .ok (.aload_n 0, 1) := by decide +kernel
theorem dX10_change_44 : decode cX10_change 44 = .ok (.getfield 28, 3) := by decide +kernel
theorem dX10_change_47 : decode cX10_change 47 = .ok (.getfield 162, 3) := by decide +kernel
theorem dX10_change_50 : decode cX10_change 50 = .ok (.aload_n 0, 1) := by decide +kernel
theorem dX10_change_51 : decode cX10_change 51 = .ok (.getfield 28, 3) := by decide +kernel
theorem dX10_change_54 : decode cX10_change 54 = .ok (.getfield 38, 3) := by decide +kernel
theorem dX10_change_57 : decode cX10_change 57 = .ok (.aload_n 0, 1) := by decide +kernel
theorem dX10_change_58 : decode cX10_change 58 = .ok (.getfield 59, 3) := by decide +kernel
theorem dX10_change_61 : decode cX10_change 61 = .ok (.getfield 179, 3) := by decide +kernel
theorem dX10_change_64 : decode cX10_change 64 = .ok (.invokevirtual 182, 3) := by decide +kernel
theorem dX10_change_67 : decode cX10_change 67 = .ok (.aload_n 0, 1) := by decide +kernel
theorem dX10_change_68 : decode cX10_change 68 = .ok (.getfield 28, 3) := by decide +kernel
theorem dX10_change_71 : decode cX10_change 71 = .ok (.getfield 38, 3) := by decide +kernel
theorem dX10_change_74 : decode cX10_change 74 = .ok (.getfield 98, 3) := by decide +kernel
theorem dX10_change_77 : decode cX10_change 77 = .ok (.aload_n 0, 1) := by decide +kernel
theorem dX10_change_78 : decode cX10_change 78 = .ok (.getfield 59, 3) := by decide +kernel
theorem dX10_change_81 : decode cX10_change 81 = .ok (.getfield 186, 3) := by decide +kernel
theorem dX10_change_84 : decode cX10_change 84 = .ok (.isub, 1) := by decide +kernel
theorem dX10_change_85 : decode cX10_change 85 = .ok (.ireturn, 1) := by decide +kernel
theorem dX10_turn_0 : decode cX10_turn 0 = .ok (.aload_n 0, 1) := by decide +kernel
theorem dX10_turn_1 : decode cX10_turn 1 = .ok (.getfield 28, 3) := by decide +kernel
theorem dX10_turn_4 : decode cX10_turn 4 = .ok (.getfield 162, 3) := by decide +kernel
theorem dX10_turn_7 : decode cX10_turn 7 = .ok (.getfield 189, 3) := by decide +kernel
theorem dX10_turn_10 : decode cX10_turn 10 = .ok (.ireturn, 1) := by decide +kernel
theorem dX10_pin_0 : decode cX10_pin 0 = .ok (.iload_n 1, 1) := by decide +kernel
theorem dX10_pin_1 : decode cX10_pin 1 = .ok (.ifCond .lt 24, 3) := by decide +kernel
theorem dX10_pin_4 : decode cX10_pin 4 = .ok (.iload_n 1, 1) := by decide +kernel
theorem dX10_pin_5 : decode cX10_pin 5 = .ok (.aload_n 0, 1) := by decide +kernel
theorem dX10_pin_6 : decode cX10_pin 6 = .ok (.getfield 28, 3) := by decide +kernel
theorem dX10_pin_9 : decode cX10_pin 9 = .ok (.getfield 162, 3) := by decide +kernel
theorem dX10_pin_12 : decode cX10_pin 12 = .ok (.getfield 192, 3) := by decide +kernel
theorem dX10_pin_15 : decode cX10_pin 15 = .ok (.if_icmp .ge 10, 3) := by decide +kernel
theorem dX10_pin_18 : decode cX10_pin 18 = .ok (.iload_n 2, 1) := by decide +kernel
theorem dX10_pin_19 : decode cX10_pin 19 = .ok (.invokestatic 139, 3) := by decide +kernel
theorem dX10_pin_22 : decode cX10_pin 22 = .ok (.ifCond .ne 5, 3) := by decide +kernel
theorem dX10_pin_25 : decode cX10_pin 25 = .ok (.iconst (-1), 1) := by decide +kernel
theorem dX10_pin_26 : decode cX10_pin 26 = .ok (.ireturn, 1) := by decide +kernel
theorem dX10_pin_27 : decode cX10_pin 27 = .ok (.aload_n 0, 1) := by decide +kernel
theorem dX10_pin_28 : decode cX10_pin 28 = .ok (.getfield 28, 3) := by decide +kernel
theorem dX10_pin_31 : decode cX10_pin 31 = .ok (.getfield 162, 3) := by decide +kernel
theorem dX10_pin_34 : decode cX10_pin 34 = .ok (.iload_n 1, 1) := by decide +kernel
theorem dX10_pin_35 : decode cX10_pin 35 = .ok (.iload_n 2, 1) := by decide +kernel
theorem dX10_pin_36 : decode cX10_pin 36 = .ok (.invokevirtual 195, 3) := by decide +kernel
theorem dX10_pin_39 : decode cX10_pin 39 = .ok (.ifCond .eq 7, 3) := by decide +kernel
theorem dX10_pin_42 : decode cX10_pin 42 = .ok (.iconst 1, 1) := by decide +kernel
theorem dX10_pin_43 : decode cX10_pin 43 = .ok (.goto 4, 3) := by decide +kernel
theorem dX10_pin_46 : decode cX10_pin 46 = .ok (.iconst 0, 1) := by decide +kernel
theorem dX10_pin_47 : decode cX10_pin 47 = .ok (.ireturn, 1) := by decide +kernel
theorem dX10_pins_0 : decode cX10_pins 0 = .ok (.aload_n 0, 1) := by decide +kernel
theorem dX10_pins_1 : decode cX10_pins 1 = .ok (.getfield 28, 3) := by decide +kernel
theorem dX10_pins_4 : decode cX10_pins 4 = .ok (.getfield 162, 3) := by decide +kernel
theorem dX10_pins_7 : decode cX10_pins 7 = .ok (.getfield 199, 3) := by decide +kernel
theorem dX10_pins_10 : decode cX10_pins 10 = .ok (.ireturn, 1) := by decide +kernel
theorem dX10_play_0 : decode cX10_play 0 = .ok (.iload_n 1, 1) := by decide +kernel
theorem dX10_play_1 : decode cX10_play 1 = .ok (.lookupswitch 67 #[(0, 27), (1, 49)], 27) := by decide +kernel
theorem dX10_play_28 : decode cX10_play 28 = .ok (.aload_n 0, 1) := by decide +kernel
theorem dX10_play_29 : decode cX10_play 29 = .ok (.getfield 28, 3) := by decide +kernel
theorem dX10_play_32 : decode cX10_play 32 = .ok (.getfield 200, 3) := by decide +kernel
theorem dX10_play_35 : decode cX10_play 35 = .ok (.aload_n 0, 1) := by decide +kernel
theorem dX10_play_36 : decode cX10_play 36 = .ok (.getfield 28, 3) := by decide +kernel
theorem dX10_play_39 : decode cX10_play 39 = .ok (.getfield 38, 3) := by decide +kernel
theorem dX10_play_42 : decode cX10_play 42 = .ok (.aload_n 0, 1) := by decide +kernel
theorem dX10_play_43 : decode cX10_play 43 = .ok (.invokevirtual 113, 3) := by decide +kernel
theorem dX10_play_46 : decode cX10_play 46 = .ok (.invokevirtual 204, 3) := by decide +kernel
theorem dX10_play_49 : decode cX10_play 49 = .ok (.ireturn, 1) := by decide +kernel
theorem dX10_play_50 : decode cX10_play 50 = .ok (.aload_n 0, 1) := by decide +kernel
theorem dX10_play_51 : decode cX10_play 51 = .ok (.getfield 28, 3) := by decide +kernel
theorem dX10_play_54 : decode cX10_play 54 = .ok (.getfield 200, 3) := by decide +kernel
theorem dX10_play_57 : decode cX10_play 57 = .ok (.aload_n 0, 1) := by decide +kernel
theorem dX10_play_58 : decode cX10_play 58 = .ok (.getfield 28, 3) := by decide +kernel
theorem dX10_play_61 : decode cX10_play 61 = .ok (.getfield 162, 3) := by decide +kernel
theorem dX10_play_64 : decode cX10_play 64 = .ok (.invokevirtual 210, 3) := by decide +kernel
theorem dX10_play_67 : decode cX10_play 67 = .ok (.ireturn, 1) := by decide +kernel
theorem dX10_play_68 : decode cX10_play 68 = .ok (.iconst (-1), 1) := by decide +kernel
theorem dX10_play_69 : decode cX10_play 69 = .ok (.ireturn, 1) := by decide +kernel
theorem dX10_strikes_0 : decode cX10_strikes 0 = .ok (.iload_n 1, 1) := by decide +kernel
theorem dX10_strikes_1 : decode cX10_strikes 1 = .ok (.invokestatic 139, 3) := by decide +kernel
theorem dX10_strikes_4 : decode cX10_strikes 4 = .ok (.ifCond .ne 7, 3) := by decide +kernel
theorem dX10_strikes_7 : decode cX10_strikes 7 = .ok (.ldc2_w 214, 3) := by decide +kernel
theorem dX10_strikes_10 : decode cX10_strikes 10 = .ok (.lreturn, 1) := by decide +kernel
theorem dX10_strikes_11 : decode cX10_strikes 11 = .ok (.aload_n 0, 1) := by decide +kernel
theorem dX10_strikes_12 : decode cX10_strikes 12 = .ok (.getfield 28, 3) := by decide +kernel
theorem dX10_strikes_15 : decode cX10_strikes 15 = .ok (.getfield 200, 3) := by decide +kernel
theorem dX10_strikes_18 : decode cX10_strikes 18 = .ok (.getfield 216, 3) := by decide +kernel
theorem dX10_strikes_21 : decode cX10_strikes 21 = .ok (.iload_n 1, 1) := by decide +kernel
theorem dX10_strikes_22 : decode cX10_strikes 22 = .ok (.laload, 1) := by decide +kernel
theorem dX10_strikes_23 : decode cX10_strikes 23 = .ok (.lreturn, 1) := by decide +kernel
theorem dX10_mend_0 : decode cX10_mend 0 = .ok (.iload_n 1, 1) := by decide +kernel
theorem dX10_mend_1 : decode cX10_mend 1 = .ok (.invokestatic 139, 3) := by decide +kernel
theorem dX10_mend_4 : decode cX10_mend 4 = .ok (.ifCond .ne 7, 3) := by decide +kernel
theorem dX10_mend_7 : decode cX10_mend 7 = .ok (.ldc2_w 214, 3) := by decide +kernel
theorem dX10_mend_10 : decode cX10_mend 10 = .ok (.lreturn, 1) := by decide +kernel
theorem dX10_mend_11 : decode cX10_mend 11 = .ok (.aload_n 0, 1) := by decide +kernel
theorem dX10_mend_12 : decode cX10_mend 12 = .ok (.getfield 28, 3) := by decide +kernel
theorem dX10_mend_15 : decode cX10_mend 15 = .ok (.getfield 200, 3) := by decide +kernel
theorem dX10_mend_18 : decode cX10_mend 18 = .ok (.getfield 216, 3) := by decide +kernel
theorem dX10_mend_21 : decode cX10_mend 21 = .ok (.iload_n 1, 1) := by decide +kernel
theorem dX10_mend_22 : decode cX10_mend 22 = .ok (.laload, 1) := by decide +kernel
theorem dX10_mend_23 : decode cX10_mend 23 = .ok (.lstore_n 2, 1) := by decide +kernel
theorem dX10_mend_24 : decode cX10_mend 24 = .ok (.aload_n 0, 1) := by decide +kernel
theorem dX10_mend_25 : decode cX10_mend 25 = .ok (.getfield 28, 3) := by decide +kernel
theorem dX10_mend_28 : decode cX10_mend 28 = .ok (.getfield 200, 3) := by decide +kernel
theorem dX10_mend_31 : decode cX10_mend 31 = .ok (.getfield 216, 3) := by decide +kernel
theorem dX10_mend_34 : decode cX10_mend 34 = .ok (.iload_n 1, 1) := by decide +kernel
theorem dX10_mend_35 : decode cX10_mend 35 = .ok (.lconst 0, 1) := by decide +kernel
theorem dX10_mend_36 : decode cX10_mend 36 = .ok (.lastore, 1) := by decide +kernel
theorem dX10_mend_37 : decode cX10_mend 37 = .ok (.lload_n 2, 1) := by decide +kernel
theorem dX10_mend_38 : decode cX10_mend 38 = .ok (.lreturn, 1) := by decide +kernel
theorem dX10_worn_0 : decode cX10_worn 0 = .ok (.iload_n 1, 1) := by decide +kernel
theorem dX10_worn_1 : decode cX10_worn 1 = .ok (.iconst 1, 1) := by decide +kernel
theorem dX10_worn_2 : decode cX10_worn 2 = .ok (.if_icmp .ge 5, 3) := by decide +kernel
theorem dX10_worn_5 : decode cX10_worn 5 = .ok (.iconst (-1), 1) := by decide +kernel
theorem dX10_worn_6 : decode cX10_worn 6 = .ok (.ireturn, 1) := by decide +kernel
theorem dX10_worn_7 : decode cX10_worn 7 = .ok (.aload_n 0, 1) := by decide +kernel
theorem dX10_worn_8 : decode cX10_worn 8 = .ok (.getfield 28, 3) := by decide +kernel
theorem dX10_worn_11 : decode cX10_worn 11 = .ok (.getfield 200, 3) := by decide +kernel
theorem dX10_worn_14 : decode cX10_worn 14 = .ok (.iload_n 1, 1) := by decide +kernel
theorem dX10_worn_15 : decode cX10_worn 15 = .ok (.invokevirtual 220, 3) := by decide +kernel
theorem dX10_worn_18 : decode cX10_worn 18 = .ok (.ireturn, 1) := by decide +kernel
theorem dX10_image_0 : decode cX10_image 0 = .ok (.iload_n 1, 1) := by decide +kernel
theorem dX10_image_1 : decode cX10_image 1 = .ok (.ifCond .lt 8, 3) := by decide +kernel
theorem dX10_image_4 : decode cX10_image 4 = .ok (.iload_n 1, 1) := by decide +kernel
theorem dX10_image_5 : decode cX10_image 5 = .ok (.iconst 2, 1) := by decide +kernel
theorem dX10_image_6 : decode cX10_image 6 = .ok (.if_icmp .lt 5, 3) := by decide +kernel
theorem dX10_image_9 : decode cX10_image 9 = .ok (.iconst 0, 1) := by decide +kernel
theorem dX10_image_10 : decode cX10_image 10 = .ok (.ireturn, 1) := by decide +kernel
theorem dX10_image_11 : decode cX10_image 11 = .ok (.aload_n 0, 1) := by decide +kernel
theorem dX10_image_12 : decode cX10_image 12 = .ok (.getfield 32, 3) := by decide +kernel
theorem dX10_image_15 : decode cX10_image 15 = .ok (.iload_n 1, 1) := by decide +kernel
theorem dX10_image_16 : decode cX10_image 16 = .ok (.aaload, 1) := by decide +kernel
theorem dX10_image_17 : decode cX10_image 17 = .ok (.astore_n 2, 1) := by decide +kernel
theorem dX10_image_18 : decode cX10_image 18 = .ok (.aload_n 2, 1) := by decide +kernel
theorem dX10_image_19 : decode cX10_image 19 = .ok (.ifnonnull 18, 3) := by decide +kernel
theorem dX10_image_22 : decode cX10_image 22 = .ok (.new 25, 3) := by decide +kernel
theorem dX10_image_25 : decode cX10_image 25 = .ok (.dup, 1) := by decide +kernel
theorem dX10_image_26 : decode cX10_image 26 = .ok (.invokespecial 27, 3) := by decide +kernel
theorem dX10_image_29 : decode cX10_image 29 = .ok (.astore_n 2, 1) := by decide +kernel
theorem dX10_image_30 : decode cX10_image 30 = .ok (.aload_n 0, 1) := by decide +kernel
theorem dX10_image_31 : decode cX10_image 31 = .ok (.getfield 32, 3) := by decide +kernel
theorem dX10_image_34 : decode cX10_image 34 = .ok (.iload_n 1, 1) := by decide +kernel
theorem dX10_image_35 : decode cX10_image 35 = .ok (.aload_n 2, 1) := by decide +kernel
theorem dX10_image_36 : decode cX10_image 36 = .ok (.aastore, 1) := by decide +kernel
theorem dX10_image_37 : decode cX10_image 37 = .ok (.aload_n 2, 1) := by decide +kernel
theorem dX10_image_38 : decode cX10_image 38 = .ok (.aload_n 0, 1) := by decide +kernel
theorem dX10_image_39 : decode cX10_image 39 = .ok (.getfield 28, 3) := by decide +kernel
theorem dX10_image_42 : decode cX10_image 42 = .ok (.invokevirtual 224, 3) := by decide +kernel
theorem dX10_image_45 : decode cX10_image 45 = .ok (.iconst 1, 1) := by decide +kernel
theorem dX10_image_46 : decode cX10_image 46 = .ok (.ireturn, 1) := by decide +kernel
theorem dX10_back_0 : decode cX10_back 0 = .ok (.iload_n 1, 1) := by decide +kernel
theorem dX10_back_1 : decode cX10_back 1 = .ok (.ifCond .lt 8, 3) := by decide +kernel
theorem dX10_back_4 : decode cX10_back 4 = .ok (.iload_n 1, 1) := by decide +kernel
theorem dX10_back_5 : decode cX10_back 5 = .ok (.iconst 2, 1) := by decide +kernel
theorem dX10_back_6 : decode cX10_back 6 = .ok (.if_icmp .lt 5, 3) := by decide +kernel
theorem dX10_back_9 : decode cX10_back 9 = .ok (.iconst 0, 1) := by decide +kernel
theorem dX10_back_10 : decode cX10_back 10 = .ok (.ireturn, 1) := by decide +kernel
theorem dX10_back_11 : decode cX10_back 11 = .ok (.aload_n 0, 1) := by decide +kernel
theorem dX10_back_12 : decode cX10_back 12 = .ok (.getfield 32, 3) := by decide +kernel
theorem dX10_back_15 : decode cX10_back 15 = .ok (.iload_n 1, 1) := by decide +kernel
theorem dX10_back_16 : decode cX10_back 16 = .ok (.aaload, 1) := by decide +kernel
theorem dX10_back_17 : decode cX10_back 17 = .ok (.astore_n 2, 1) := by decide +kernel
theorem dX10_back_18 : decode cX10_back 18 = .ok (.aload_n 2, 1) := by decide +kernel
theorem dX10_back_19 : decode cX10_back 19 = .ok (.ifnonnull 5, 3) := by decide +kernel
theorem dX10_back_22 : decode cX10_back 22 = .ok (.iconst 0, 1) := by decide +kernel
theorem dX10_back_23 : decode cX10_back 23 = .ok (.ireturn, 1) := by decide +kernel
theorem dX10_back_24 : decode cX10_back 24 = .ok (.aload_n 0, 1) := by decide +kernel
theorem dX10_back_25 : decode cX10_back 25 = .ok (.getfield 28, 3) := by decide +kernel
theorem dX10_back_28 : decode cX10_back 28 = .ok (.aload_n 2, 1) := by decide +kernel
theorem dX10_back_29 : decode cX10_back 29 = .ok (.invokevirtual 224, 3) := by decide +kernel
theorem dX10_back_32 : decode cX10_back 32 = .ok (.aload_n 0, 1) := by decide +kernel
theorem dX10_back_33 : decode cX10_back 33 = .ok (.iconst 0, 1) := by decide +kernel
theorem dX10_back_34 : decode cX10_back 34 = .ok (.putfield 63, 3) := by decide +kernel
theorem dX10_back_37 : decode cX10_back 37 = .ok (.iconst 1, 1) := by decide +kernel
theorem dX10_back_38 : decode cX10_back 38 = .ok (.ireturn, 1) := by decide +kernel
theorem dX10_isBell_0 : decode cX10_isBell 0 = .ok (.iload_n 0, 1) := by decide +kernel
theorem dX10_isBell_1 : decode cX10_isBell 1 = .ok (.ifCond .lt 13, 3) := by decide +kernel
theorem dX10_isBell_4 : decode cX10_isBell 4 = .ok (.iload_n 0, 1) := by decide +kernel
theorem dX10_isBell_5 : decode cX10_isBell 5 = .ok (.bipush 24, 2) := by decide +kernel
theorem dX10_isBell_7 : decode cX10_isBell 7 = .ok (.if_icmp .ge 7, 3) := by decide +kernel
theorem dX10_isBell_10 : decode cX10_isBell 10 = .ok (.iconst 1, 1) := by decide +kernel
theorem dX10_isBell_11 : decode cX10_isBell 11 = .ok (.goto 4, 3) := by decide +kernel
theorem dX10_isBell_14 : decode cX10_isBell 14 = .ok (.iconst 0, 1) := by decide +kernel
theorem dX10_isBell_15 : decode cX10_isBell 15 = .ok (.ireturn, 1) := by decide +kernel
theorem dX10_theSetting_0 : decode cX10_theSetting 0 = .ok (.aload_n 0, 1) := by decide +kernel
theorem dX10_theSetting_1 : decode cX10_theSetting 1 = .ok (.getfield 63, 3) := by decide +kernel
theorem dX10_theSetting_4 : decode cX10_theSetting 4 = .ok (.ifCond .ne 29, 3) := by decide +kernel
theorem dX10_theSetting_7 : decode cX10_theSetting 7 = .ok (.aload_n 0, 1) := by decide +kernel
theorem dX10_theSetting_8 : decode cX10_theSetting 8 = .ok (.getfield 45, 3) := by decide +kernel
theorem dX10_theSetting_11 : decode cX10_theSetting 11 = .ok (.aload_n 0, 1) := by decide +kernel
theorem dX10_theSetting_12 : decode cX10_theSetting 12 = .ok (.getfield 28, 3) := by decide +kernel
theorem dX10_theSetting_15 : decode cX10_theSetting 15 = .ok (.getfield 120, 3) := by decide +kernel
theorem dX10_theSetting_18 : decode cX10_theSetting 18 = .ok (.aload_n 0, 1) := by decide +kernel
theorem dX10_theSetting_19 : decode cX10_theSetting 19 = .ok (.getfield 28, 3) := by decide +kernel
theorem dX10_theSetting_22 : decode cX10_theSetting 22 = .ok (.getfield 123, 3) := by decide +kernel
theorem dX10_theSetting_25 : decode cX10_theSetting 25 = .ok (.invokevirtual 227, 3) := by decide +kernel
theorem dX10_theSetting_28 : decode cX10_theSetting 28 = .ok (.aload_n 0, 1) := by decide +kernel
theorem dX10_theSetting_29 : decode cX10_theSetting 29 = .ok (.iconst 1, 1) := by decide +kernel
theorem dX10_theSetting_30 : decode cX10_theSetting 30 = .ok (.putfield 63, 3) := by decide +kernel
theorem dX10_theSetting_33 : decode cX10_theSetting 33 = .ok (.aload_n 0, 1) := by decide +kernel
theorem dX10_theSetting_34 : decode cX10_theSetting 34 = .ok (.getfield 45, 3) := by decide +kernel
theorem dX10_theSetting_37 : decode cX10_theSetting 37 = .ok (.areturn, 1) := by decide +kernel
theorem dX11_init_0 : decode cX11_init 0 = .ok (.aload_n 0, 1) := by decide +kernel
theorem dX11_init_1 : decode cX11_init 1 = .ok (.invokespecial 1, 3) := by decide +kernel
theorem dX11_init_4 : decode cX11_init 4 = .ok (.aload_n 0, 1) := by decide +kernel
theorem dX11_init_5 : decode cX11_init 5 = .ok (.sipush 6888, 3) := by decide +kernel
theorem dX11_init_8 : decode cX11_init 8 = .ok (.newarray .int, 2) := by decide +kernel
theorem dX11_init_10 : decode cX11_init 10 = .ok (.putfield 7, 3) := by decide +kernel
theorem dX11_init_13 : decode cX11_init 13 = .ok (.aload_n 0, 1) := by decide +kernel
theorem dX11_init_14 : decode cX11_init 14 = .ok (.bipush 72, 2) := by decide +kernel
theorem dX11_init_16 : decode cX11_init 16 = .ok (.newarray .long, 2) := by decide +kernel
theorem dX11_init_18 : decode cX11_init 18 = .ok (.putfield 13, 3) := by decide +kernel
theorem dX11_init_21 : decode cX11_init 21 = .ok (.aload_n 0, 1) := by decide +kernel
theorem dX11_init_22 : decode cX11_init 22 = .ok (.iconst 2, 1) := by decide +kernel
theorem dX11_init_23 : decode cX11_init 23 = .ok (.newarray .boolean, 2) := by decide +kernel
theorem dX11_init_25 : decode cX11_init 25 = .ok (.putfield 17, 3) := by decide +kernel
theorem dX11_init_28 : decode cX11_init 28 = .ok (.aload_n 0, 1) := by decide +kernel
theorem dX11_init_29 : decode cX11_init 29 = .ok (.sipush 1000, 3) := by decide +kernel
theorem dX11_init_32 : decode cX11_init 32 = .ok (.newarray .int, 2) := by decide +kernel
theorem dX11_init_34 : decode cX11_init 34 = .ok (.putfield 21, 3) := by decide +kernel
theorem dX11_init_37 : decode cX11_init 37 = .ok (.aload_n 0, 1) := by decide +kernel
theorem dX11_init_38 : decode cX11_init 38 = .ok (.sipush 200, 3) := by decide +kernel
theorem dX11_init_41 : decode cX11_init 41 = .ok (.newarray .int, 2) := by decide +kernel
theorem dX11_init_43 : decode cX11_init 43 = .ok (.putfield 24, 3) := by decide +kernel
theorem dX11_init_46 : decode cX11_init 46 = .ok (.aload_n 0, 1) := by decide +kernel
theorem dX11_init_47 : decode cX11_init 47 = .ok (.sipush 200, 3) := by decide +kernel
theorem dX11_init_50 : decode cX11_init 50 = .ok (.newarray .int, 2) := by decide +kernel
theorem dX11_init_52 : decode cX11_init 52 = .ok (.putfield 27, 3) := by decide +kernel
theorem dX11_init_55 : decode cX11_init 55 = .ok (.aload_n 0, 1) := by decide +kernel
theorem dX11_init_56 : decode cX11_init 56 = .ok (.sipush 1001, 3) := by decide +kernel
theorem dX11_init_59 : decode cX11_init 59 = .ok (.newarray .int, 2) := by decide +kernel
theorem dX11_init_61 : decode cX11_init 61 = .ok (.putfield 30, 3) := by decide +kernel
theorem dX11_init_64 : decode cX11_init 64 = .ok (.aload_n 0, 1) := by decide +kernel
theorem dX11_init_65 : decode cX11_init 65 = .ok (.iconst 4, 1) := by decide +kernel
theorem dX11_init_66 : decode cX11_init 66 = .ok (.newarray .int, 2) := by decide +kernel
theorem dX11_init_68 : decode cX11_init 68 = .ok (.putfield 33, 3) := by decide +kernel
theorem dX11_init_71 : decode cX11_init 71 = .ok (.aload_n 0, 1) := by decide +kernel
theorem dX11_init_72 : decode cX11_init 72 = .ok (.iconst 4, 1) := by decide +kernel
theorem dX11_init_73 : decode cX11_init 73 = .ok (.newarray .int, 2) := by decide +kernel
theorem dX11_init_75 : decode cX11_init 75 = .ok (.putfield 36, 3) := by decide +kernel
theorem dX11_init_78 : decode cX11_init 78 = .ok (.aload_n 0, 1) := by decide +kernel
theorem dX11_init_79 : decode cX11_init 79 = .ok (.iconst 4, 1) := by decide +kernel
theorem dX11_init_80 : decode cX11_init 80 = .ok (.newarray .int, 2) := by decide +kernel
theorem dX11_init_82 : decode cX11_init 82 = .ok (.putfield 39, 3) := by decide +kernel
theorem dX11_init_85 : decode cX11_init 85 = .ok (.aload_n 0, 1) := by decide +kernel
theorem dX11_init_86 : decode cX11_init 86 = .ok (.ldc 42, 2) := by decide +kernel
theorem dX11_init_88 : decode cX11_init 88 = .ok (.newarray .int, 2) := by decide +kernel
theorem dX11_init_90 : decode cX11_init 90 = .ok (.putfield 43, 3) := by decide +kernel
theorem dX11_init_93 : decode cX11_init 93 = .ok (.aload_n 0, 1) := by decide +kernel
theorem dX11_init_94 : decode cX11_init 94 = .ok (.bipush 100, 2) := by decide +kernel
theorem dX11_init_96 : decode cX11_init 96 = .ok (.newarray .int, 2) := by decide +kernel
theorem dX11_init_98 : decode cX11_init 98 = .ok (.putfield 46, 3) := by decide +kernel
theorem dX11_init_101 : decode cX11_init 101 = .ok (.aload_n 0, 1) := by decide +kernel
theorem dX11_init_102 : decode cX11_init 102 = .ok (.iconst 2, 1) := by decide +kernel
theorem dX11_init_103 : decode cX11_init 103 = .ok (.newarray .int, 2) := by decide +kernel
theorem dX11_init_105 : decode cX11_init 105 = .ok (.putfield 49, 3) := by decide +kernel
theorem dX11_init_108 : decode cX11_init 108 = .ok (.aload_n 0, 1) := by decide +kernel
theorem dX11_init_109 : decode cX11_init 109 = .ok (.getfield 7, 3) := by decide +kernel
theorem dX11_init_112 : decode cX11_init 112 = .ok (.sipush 202, 3) := by decide +kernel
theorem dX11_init_115 : decode cX11_init 115 = .ok (.iconst 4, 1) := by decide +kernel
theorem dX11_init_116 : decode cX11_init 116 = .ok (.iastore, 1) := by decide +kernel
theorem dX11_init_117 : decode cX11_init 117 = .ok (.aload_n 0, 1) := by decide +kernel
theorem dX11_init_118 : decode cX11_init 118 = .ok (.getfield 7, 3) := by decide +kernel
theorem dX11_init_121 : decode cX11_init 121 = .ok (.sipush 203, 3) := by decide +kernel
theorem dX11_init_124 : decode cX11_init 124 = .ok (.bipush 100, 2) := by decide +kernel
theorem dX11_init_126 : decode cX11_init 126 = .ok (.iastore, 1) := by decide +kernel
theorem dX11_init_127 : decode cX11_init 127 = .ok (.iconst 0, 1) := by decide +kernel
theorem dX11_init_128 : decode cX11_init 128 = .ok (.istore_n 1, 1) := by decide +kernel
theorem dX11_init_129 : decode cX11_init 129 = .ok (.iload_n 1, 1) := by decide +kernel
theorem dX11_init_130 : decode cX11_init 130 = .ok (.bipush 24, 2) := by decide +kernel
theorem dX11_init_132 : decode cX11_init 132 = .ok (.if_icmp .ge 21, 3) := by decide +kernel
theorem dX11_init_135 : decode cX11_init 135 = .ok (.aload_n 0, 1) := by decide +kernel
theorem dX11_init_136 : decode cX11_init 136 = .ok (.getfield 7, 3) := by decide +kernel
theorem dX11_init_139 : decode cX11_init 139 = .ok (.sipush 204, 3) := by decide +kernel
theorem dX11_init_142 : decode cX11_init 142 = .ok (.iload_n 1, 1) := by decide +kernel
theorem dX11_init_143 : decode cX11_init 143 = .ok (.iadd, 1) := by decide +kernel
theorem dX11_init_144 : decode cX11_init 144 = .ok (.bipush 8, 2) := by decide +kernel
theorem dX11_init_146 : decode cX11_init 146 = .ok (.iastore, 1) := by decide +kernel
theorem dX11_init_147 : decode cX11_init 147 = .ok (.iinc 1 1, 3) := by decide +kernel
theorem dX11_init_150 : decode cX11_init 150 = .ok (.goto (-21), 3) := by decide +kernel
theorem dX11_init_153 : decode cX11_init 153 = .ok (.aload_n 0, 1) := by decide +kernel
theorem dX11_init_154 : decode cX11_init 154 = .ok (.getfield 7, 3) := by decide +kernel
theorem dX11_init_157 : decode cX11_init 157 = .ok (.sipush 228, 3) := by decide +kernel
theorem dX11_init_160 : decode cX11_init 160 = .ok (.sipush 3142, 3) := by decide +kernel
theorem dX11_init_163 : decode cX11_init 163 = .ok (.iastore, 1) := by decide +kernel
theorem dX11_init_164 : decode cX11_init 164 = .ok (.aload_n 0, 1) := by decide +kernel
theorem dX11_init_165 : decode cX11_init 165 = .ok (.getfield 7, 3) := by decide +kernel
theorem dX11_init_168 : decode cX11_init 168 = .ok (.sipush 229, 3) := by decide +kernel
theorem dX11_init_171 : decode cX11_init 171 = .ok (.bipush 64, 2) := by decide +kernel
theorem dX11_init_173 : decode cX11_init 173 = .ok (.iastore, 1) := by decide +kernel
theorem dX11_init_174 : decode cX11_init 174 = .ok (.aload_n 0, 1) := by decide +kernel
theorem dX11_init_175 : decode cX11_init 175 = .ok (.getfield 7, 3) := by decide +kernel
theorem dX11_init_178 : decode cX11_init 178 = .ok (.sipush 230, 3) := by decide +kernel
theorem dX11_init_181 : decode cX11_init 181 = .ok (.iconst (-1), 1) := by decide +kernel
theorem dX11_init_182 : decode cX11_init 182 = .ok (.iastore, 1) := by decide +kernel
theorem dX11_init_183 : decode cX11_init 183 = .ok (.aload_n 0, 1) := by decide +kernel
theorem dX11_init_184 : decode cX11_init 184 = .ok (.getfield 7, 3) := by decide +kernel
theorem dX11_init_187 : decode cX11_init 187 = .ok (.sipush 232, 3) := by decide +kernel
theorem dX11_init_190 : decode cX11_init 190 = .ok (.iconst (-1), 1) := by decide +kernel
theorem dX11_init_191 : decode cX11_init 191 = .ok (.iastore, 1) := by decide +kernel
theorem dX11_init_192 : decode cX11_init 192 = .ok (.return_, 1) := by decide +kernel
theorem dX11_image_0 : decode cX11_image 0 = .ok (.iload_n 1, 1) := by decide +kernel
theorem dX11_image_1 : decode cX11_image 1 = .ok (.ifCond .lt 8, 3) := by decide +kernel
theorem dX11_image_4 : decode cX11_image 4 = .ok (.iload_n 1, 1) := by decide +kernel
theorem dX11_image_5 : decode cX11_image 5 = .ok (.iconst 1, 1) := by decide +kernel
theorem dX11_image_6 : decode cX11_image 6 = .ok (.if_icmp .le 5, 3) := by decide +kernel
theorem dX11_image_9 : decode cX11_image 9 = .ok (.iconst 0, 1) := by decide +kernel
theorem dX11_image_10 : decode cX11_image 10 = .ok (.ireturn, 1) := by decide +kernel
theorem dX11_image_11 : decode cX11_image 11 = .ok (.iconst 0, 1) := by decide +kernel
theorem dX11_image_12 : decode cX11_image 12 = .ok (.istore_n 2, 1) := by decide +kernel
theorem dX11_image_13 : decode cX11_image 13 = .ok (.iload_n 2, 1) := by decide +kernel
theorem dX11_image_14 : decode cX11_image 14 = .ok (.sipush 2296, 3) := by decide +kernel
theorem dX11_image_17 : decode cX11_image 17 = .ok (.if_icmp .ge 29, 3) := by decide +kernel
theorem dX11_image_20 : decode cX11_image 20 = .ok (.aload_n 0, 1) := by decide +kernel
theorem dX11_image_21 : decode cX11_image 21 = .ok (.getfield 7, 3) := by decide +kernel
theorem dX11_image_24 : decode cX11_image 24 = .ok (.sipush 2296, 3) := by decide +kernel
theorem dX11_image_27 : decode cX11_image 27 = .ok (.iload_n 1, 1) := by decide +kernel
theorem dX11_image_28 : decode cX11_image 28 = .ok (.iconst 1, 1) := by decide +kernel
end
section
theorem dX11_image_29 : decode cX11_image 29 = .ok (.iadd, 1) := by decide +kernel
theorem dX11_image_30 : decode cX11_image 30 = .ok (.imul, 1) := by decide +kernel
theorem dX11_image_31 : decode cX11_image 31 = .ok (.iload_n 2, 1) := by decide +kernel
theorem dX11_image_32 : decode cX11_image 32 = .ok (.iadd, 1) := by decide +kernel
theorem dX11_image_33 : decode cX11_image 33 = .ok (.aload_n 0, 1) := by decide +kernel
theorem dX11_image_34 : decode cX11_image 34 = .ok (.getfield 7, 3) := by decide +kernel
theorem dX11_image_37 : decode cX11_image 37 = .ok (.iload_n 2, 1) := by decide +kernel
theorem dX11_image_38 : decode cX11_image 38 = .ok (.iaload, 1) := by decide +kernel
theorem dX11_image_39 : decode cX11_image 39 = .ok (.iastore, 1) := by decide +kernel
theorem dX11_image_40 : decode cX11_image 40 = .ok (.iinc 2 1, 3) := by decide +kernel
theorem dX11_image_43 : decode cX11_image 43 = .ok (.goto (-30), 3) := by decide +kernel
theorem dX11_image_46 : decode cX11_image 46 = .ok (.iconst 0, 1) := by decide +kernel
theorem dX11_image_47 : decode cX11_image 47 = .ok (.istore_n 2, 1) := by decide +kernel
theorem dX11_image_48 : decode cX11_image 48 = .ok (.iload_n 2, 1) := by decide +kernel
theorem dX11_image_49 : decode cX11_image 49 = .ok (.bipush 24, 2) := by decide +kernel
theorem dX11_image_51 : decode cX11_image 51 = .ok (.if_icmp .ge 28, 3) := by decide +kernel
theorem dX11_image_54 : decode cX11_image 54 = .ok (.aload_n 0, 1) := by decide +kernel
theorem dX11_image_55 : decode cX11_image 55 = .ok (.getfield 13, 3) := by decide +kernel
theorem dX11_image_58 : decode cX11_image 58 = .ok (.bipush 24, 2) := by decide +kernel
theorem dX11_image_60 : decode cX11_image 60 = .ok (.iload_n 1, 1) := by decide +kernel
theorem dX11_image_61 : decode cX11_image 61 = .ok (.iconst 1, 1) := by decide +kernel
theorem dX11_image_62 : decode cX11_image 62 = .ok (.iadd, 1) := by decide +kernel
theorem dX11_image_63 : decode cX11_image 63 = .ok (.imul, 1) := by decide +kernel
theorem dX11_image_64 : decode cX11_image 64 = .ok (.iload_n 2, 1) := by decide +kernel
theorem dX11_image_65 : decode cX11_image 65 = .ok (.iadd, 1) := by decide +kernel
theorem dX11_image_66 : decode cX11_image 66 = .ok (.aload_n 0, 1) := by decide +kernel
theorem dX11_image_67 : decode cX11_image 67 = .ok (.getfield 13, 3) := by decide +kernel
theorem dX11_image_70 : decode cX11_image 70 = .ok (.iload_n 2, 1) := by decide +kernel
theorem dX11_image_71 : decode cX11_image 71 = .ok (.laload, 1) := by decide +kernel
theorem dX11_image_72 : decode cX11_image 72 = .ok (.lastore, 1) := by decide +kernel
theorem dX11_image_73 : decode cX11_image 73 = .ok (.iinc 2 1, 3) := by decide +kernel
theorem dX11_image_76 : decode cX11_image 76 = .ok (.goto (-28), 3) := by decide +kernel
theorem dX11_image_79 : decode cX11_image 79 = .ok (.aload_n 0, 1) := by decide +kernel
theorem dX11_image_80 : decode cX11_image 80 = .ok (.getfield 17, 3) := by decide +kernel
theorem dX11_image_83 : decode cX11_image 83 = .ok (.iload_n 1, 1) := by decide +kernel
theorem dX11_image_84 : decode cX11_image 84 = .ok (.iconst 1, 1) := by decide +kernel
theorem dX11_image_85 : decode cX11_image 85 = .ok (.bastore, 1) := by decide +kernel
theorem dX11_image_86 : decode cX11_image 86 = .ok (.iconst 1, 1) := by decide +kernel
theorem dX11_image_87 : decode cX11_image 87 = .ok (.ireturn, 1) := by decide +kernel
theorem dX11_back_0 : decode cX11_back 0 = .ok (.iload_n 1, 1) := by decide +kernel
theorem dX11_back_1 : decode cX11_back 1 = .ok (.ifCond .lt 17, 3) := by decide +kernel
theorem dX11_back_4 : decode cX11_back 4 = .ok (.iload_n 1, 1) := by decide +kernel
theorem dX11_back_5 : decode cX11_back 5 = .ok (.iconst 1, 1) := by decide +kernel
theorem dX11_back_6 : decode cX11_back 6 = .ok (.if_icmp .gt 12, 3) := by decide +kernel
theorem dX11_back_9 : decode cX11_back 9 = .ok (.aload_n 0, 1) := by decide +kernel
theorem dX11_back_10 : decode cX11_back 10 = .ok (.getfield 17, 3) := by decide +kernel
theorem dX11_back_13 : decode cX11_back 13 = .ok (.iload_n 1, 1) := by decide +kernel
theorem dX11_back_14 : decode cX11_back 14 = .ok (.baload, 1) := by decide +kernel
theorem dX11_back_15 : decode cX11_back 15 = .ok (.ifCond .ne 5, 3) := by decide +kernel
theorem dX11_back_18 : decode cX11_back 18 = .ok (.iconst 0, 1) := by decide +kernel
theorem dX11_back_19 : decode cX11_back 19 = .ok (.ireturn, 1) := by decide +kernel
theorem dX11_back_20 : decode cX11_back 20 = .ok (.iconst 0, 1) := by decide +kernel
theorem dX11_back_21 : decode cX11_back 21 = .ok (.istore_n 2, 1) := by decide +kernel
theorem dX11_back_22 : decode cX11_back 22 = .ok (.iload_n 2, 1) := by decide +kernel
theorem dX11_back_23 : decode cX11_back 23 = .ok (.sipush 2296, 3) := by decide +kernel
theorem dX11_back_26 : decode cX11_back 26 = .ok (.if_icmp .ge 29, 3) := by decide +kernel
theorem dX11_back_29 : decode cX11_back 29 = .ok (.aload_n 0, 1) := by decide +kernel
theorem dX11_back_30 : decode cX11_back 30 = .ok (.getfield 7, 3) := by decide +kernel
theorem dX11_back_33 : decode cX11_back 33 = .ok (.iload_n 2, 1) := by decide +kernel
theorem dX11_back_34 : decode cX11_back 34 = .ok (.aload_n 0, 1) := by decide +kernel
theorem dX11_back_35 : decode cX11_back 35 = .ok (.getfield 7, 3) := by decide +kernel
theorem dX11_back_38 : decode cX11_back 38 = .ok (.sipush 2296, 3) := by decide +kernel
theorem dX11_back_41 : decode cX11_back 41 = .ok (.iload_n 1, 1) := by decide +kernel
theorem dX11_back_42 : decode cX11_back 42 = .ok (.iconst 1, 1) := by decide +kernel
theorem dX11_back_43 : decode cX11_back 43 = .ok (.iadd, 1) := by decide +kernel
theorem dX11_back_44 : decode cX11_back 44 = .ok (.imul, 1) := by decide +kernel
theorem dX11_back_45 : decode cX11_back 45 = .ok (.iload_n 2, 1) := by decide +kernel
theorem dX11_back_46 : decode cX11_back 46 = .ok (.iadd, 1) := by decide +kernel
theorem dX11_back_47 : decode cX11_back 47 = .ok (.iaload, 1) := by decide +kernel
theorem dX11_back_48 : decode cX11_back 48 = .ok (.iastore, 1) := by decide +kernel
theorem dX11_back_49 : decode cX11_back 49 = .ok (.iinc 2 1, 3) := by decide +kernel
theorem dX11_back_52 : decode cX11_back 52 = .ok (.goto (-30), 3) := by decide +kernel
theorem dX11_back_55 : decode cX11_back 55 = .ok (.iconst 0, 1) := by decide +kernel
theorem dX11_back_56 : decode cX11_back 56 = .ok (.istore_n 2, 1) := by decide +kernel
theorem dX11_back_57 : decode cX11_back 57 = .ok (.iload_n 2, 1) := by decide +kernel
theorem dX11_back_58 : decode cX11_back 58 = .ok (.bipush 24, 2) := by decide +kernel
theorem dX11_back_60 : decode cX11_back 60 = .ok (.if_icmp .ge 28, 3) := by decide +kernel
theorem dX11_back_63 : decode cX11_back 63 = .ok (.aload_n 0, 1) := by decide +kernel
theorem dX11_back_64 : decode cX11_back 64 = .ok (.getfield 13, 3) := by decide +kernel
theorem dX11_back_67 : decode cX11_back 67 = .ok (.iload_n 2, 1) := by decide +kernel
theorem dX11_back_68 : decode cX11_back 68 = .ok (.aload_n 0, 1) := by decide +kernel
theorem dX11_back_69 : decode cX11_back 69 = .ok (.getfield 13, 3) := by decide +kernel
theorem dX11_back_72 : decode cX11_back 72 = .ok (.bipush 24, 2) := by decide +kernel
theorem dX11_back_74 : decode cX11_back 74 = .ok (.iload_n 1, 1) := by decide +kernel
theorem dX11_back_75 : decode cX11_back 75 = .ok (.iconst 1, 1) := by decide +kernel
theorem dX11_back_76 : decode cX11_back 76 = .ok (.iadd, 1) := by decide +kernel
theorem dX11_back_77 : decode cX11_back 77 = .ok (.imul, 1) := by decide +kernel
theorem dX11_back_78 : decode cX11_back 78 = .ok (.iload_n 2, 1) := by decide +kernel
theorem dX11_back_79 : decode cX11_back 79 = .ok (.iadd, 1) := by decide +kernel
theorem dX11_back_80 : decode cX11_back 80 = .ok (.laload, 1) := by decide +kernel
theorem dX11_back_81 : decode cX11_back 81 = .ok (.lastore, 1) := by decide +kernel
theorem dX11_back_82 : decode cX11_back 82 = .ok (.iinc 2 1, 3) := by decide +kernel
theorem dX11_back_85 : decode cX11_back 85 = .ok (.goto (-28), 3) := by decide +kernel
theorem dX11_back_88 : decode cX11_back 88 = .ok (.iconst 1, 1) := by decide +kernel
theorem dX11_back_89 : decode cX11_back 89 = .ok (.ireturn, 1) := by decide +kernel
theorem dX11_feed_0 : decode cX11_feed 0 = .ok (.aload_n 0, 1) := by decide +kernel
theorem dX11_feed_1 : decode cX11_feed 1 = .ok (.getfield 52, 3) := by decide +kernel
theorem dX11_feed_4 : decode cX11_feed 4 = .ok (.bipush 20, 2) := by decide +kernel
theorem dX11_feed_6 : decode cX11_feed 6 = .ok (.iadd, 1) := by decide +kernel
theorem dX11_feed_7 : decode cX11_feed 7 = .ok (.sipush 1000, 3) := by decide +kernel
theorem dX11_feed_10 : decode cX11_feed 10 = .ok (.if_icmp .le 5, 3) := by decide +kernel
theorem dX11_feed_13 : decode cX11_feed 13 = .ok (.iconst (-1), 1) := by decide +kernel
theorem dX11_feed_14 : decode cX11_feed 14 = .ok (.ireturn, 1) := by decide +kernel
theorem dX11_feed_15 : decode cX11_feed 15 = .ok (.iconst 0, 1) := by decide +kernel
theorem dX11_feed_16 : decode cX11_feed 16 = .ok (.istore 6, 2) := by decide +kernel
theorem dX11_feed_18 : decode cX11_feed 18 = .ok (.iload 6, 2) := by decide +kernel
theorem dX11_feed_20 : decode cX11_feed 20 = .ok (.bipush 20, 2) := by decide +kernel
theorem dX11_feed_22 : decode cX11_feed 22 = .ok (.if_icmp .ge 92, 3) := by decide +kernel
theorem dX11_feed_25 : decode cX11_feed 25 = .ok (.iload 6, 2) := by decide +kernel
theorem dX11_feed_27 : decode cX11_feed 27 = .ok (.iconst 4, 1) := by decide +kernel
theorem dX11_feed_28 : decode cX11_feed 28 = .ok (.if_icmp .ge 7, 3) := by decide +kernel
theorem dX11_feed_31 : decode cX11_feed 31 = .ok (.iload_n 1, 1) := by decide +kernel
theorem dX11_feed_32 : decode cX11_feed 32 = .ok (.goto 39, 3) := by decide +kernel
theorem dX11_feed_35 : decode cX11_feed 35 = .ok (.iload 6, 2) := by decide +kernel
theorem dX11_feed_37 : decode cX11_feed 37 = .ok (.bipush 8, 2) := by decide +kernel
theorem dX11_feed_39 : decode cX11_feed 39 = .ok (.if_icmp .ge 7, 3) := by decide +kernel
theorem dX11_feed_42 : decode cX11_feed 42 = .ok (.iload_n 2, 1) := by decide +kernel
theorem dX11_feed_43 : decode cX11_feed 43 = .ok (.goto 28, 3) := by decide +kernel
theorem dX11_feed_46 : decode cX11_feed 46 = .ok (.iload 6, 2) := by decide +kernel
theorem dX11_feed_48 : decode cX11_feed 48 = .ok (.bipush 12, 2) := by decide +kernel
theorem dX11_feed_50 : decode cX11_feed 50 = .ok (.if_icmp .ge 7, 3) := by decide +kernel
theorem dX11_feed_53 : decode cX11_feed 53 = .ok (.iload_n 3, 1) := by decide +kernel
theorem dX11_feed_54 : decode cX11_feed 54 = .ok (.goto 17, 3) := by decide +kernel
theorem dX11_feed_57 : decode cX11_feed 57 = .ok (.iload 6, 2) := by decide +kernel
theorem dX11_feed_59 : decode cX11_feed 59 = .ok (.bipush 16, 2) := by decide +kernel
theorem dX11_feed_61 : decode cX11_feed 61 = .ok (.if_icmp .ge 8, 3) := by decide +kernel
theorem dX11_feed_64 : decode cX11_feed 64 = .ok (.iload 4, 2) := by decide +kernel
theorem dX11_feed_66 : decode cX11_feed 66 = .ok (.goto 5, 3) := by decide +kernel
theorem dX11_feed_69 : decode cX11_feed 69 = .ok (.iload 5, 2) := by decide +kernel
theorem dX11_feed_71 : decode cX11_feed 71 = .ok (.istore 7, 2) := by decide +kernel
theorem dX11_feed_73 : decode cX11_feed 73 = .ok (.aload_n 0, 1) := by decide +kernel
theorem dX11_feed_74 : decode cX11_feed 74 = .ok (.getfield 21, 3) := by decide +kernel
theorem dX11_feed_77 : decode cX11_feed 77 = .ok (.aload_n 0, 1) := by decide +kernel
theorem dX11_feed_78 : decode cX11_feed 78 = .ok (.getfield 52, 3) := by decide +kernel
theorem dX11_feed_81 : decode cX11_feed 81 = .ok (.iload 7, 2) := by decide +kernel
theorem dX11_feed_83 : decode cX11_feed 83 = .ok (.bipush 8, 2) := by decide +kernel
theorem dX11_feed_85 : decode cX11_feed 85 = .ok (.iconst 3, 1) := by decide +kernel
theorem dX11_feed_86 : decode cX11_feed 86 = .ok (.iload 6, 2) := by decide +kernel
theorem dX11_feed_88 : decode cX11_feed 88 = .ok (.iconst 4, 1) := by decide +kernel
theorem dX11_feed_89 : decode cX11_feed 89 = .ok (.irem, 1) := by decide +kernel
theorem dX11_feed_90 : decode cX11_feed 90 = .ok (.isub, 1) := by decide +kernel
theorem dX11_feed_91 : decode cX11_feed 91 = .ok (.imul, 1) := by decide +kernel
theorem dX11_feed_92 : decode cX11_feed 92 = .ok (.ishr, 1) := by decide +kernel
theorem dX11_feed_93 : decode cX11_feed 93 = .ok (.sipush 255, 3) := by decide +kernel
theorem dX11_feed_96 : decode cX11_feed 96 = .ok (.iand, 1) := by decide +kernel
theorem dX11_feed_97 : decode cX11_feed 97 = .ok (.iastore, 1) := by decide +kernel
theorem dX11_feed_98 : decode cX11_feed 98 = .ok (.aload_n 0, 1) := by decide +kernel
theorem dX11_feed_99 : decode cX11_feed 99 = .ok (.dup, 1) := by decide +kernel
theorem dX11_feed_100 : decode cX11_feed 100 = .ok (.getfield 52, 3) := by decide +kernel
theorem dX11_feed_103 : decode cX11_feed 103 = .ok (.iconst 1, 1) := by decide +kernel
theorem dX11_feed_104 : decode cX11_feed 104 = .ok (.iadd, 1) := by decide +kernel
theorem dX11_feed_105 : decode cX11_feed 105 = .ok (.putfield 52, 3) := by decide +kernel
theorem dX11_feed_108 : decode cX11_feed 108 = .ok (.iinc 6 1, 3) := by decide +kernel
theorem dX11_feed_111 : decode cX11_feed 111 = .ok (.goto (-93), 3) := by decide +kernel
theorem dX11_feed_114 : decode cX11_feed 114 = .ok (.aload_n 0, 1) := by decide +kernel
theorem dX11_feed_115 : decode cX11_feed 115 = .ok (.getfield 52, 3) := by decide +kernel
theorem dX11_feed_118 : decode cX11_feed 118 = .ok (.ireturn, 1) := by decide +kernel
theorem dX11_end_0 : decode cX11_end 0 = .ok (.iload_n 1, 1) := by decide +kernel
theorem dX11_end_1 : decode cX11_end 1 = .ok (.ifCond .lt 11, 3) := by decide +kernel
theorem dX11_end_4 : decode cX11_end 4 = .ok (.iload_n 1, 1) := by decide +kernel
theorem dX11_end_5 : decode cX11_end 5 = .ok (.aload_n 0, 1) := by decide +kernel
theorem dX11_end_6 : decode cX11_end 6 = .ok (.getfield 52, 3) := by decide +kernel
theorem dX11_end_9 : decode cX11_end 9 = .ok (.if_icmp .le 5, 3) := by decide +kernel
theorem dX11_end_12 : decode cX11_end 12 = .ok (.iconst 0, 1) := by decide +kernel
theorem dX11_end_13 : decode cX11_end 13 = .ok (.ireturn, 1) := by decide +kernel
theorem dX11_end_14 : decode cX11_end 14 = .ok (.aload_n 0, 1) := by decide +kernel
theorem dX11_end_15 : decode cX11_end 15 = .ok (.iload_n 1, 1) := by decide +kernel
theorem dX11_end_16 : decode cX11_end 16 = .ok (.putfield 52, 3) := by decide +kernel
theorem dX11_end_19 : decode cX11_end 19 = .ok (.iconst 1, 1) := by decide +kernel
theorem dX11_end_20 : decode cX11_end 20 = .ok (.ireturn, 1) := by decide +kernel
theorem dX11_fail_0 : decode cX11_fail 0 = .ok (.aload_n 0, 1) := by decide +kernel
theorem dX11_fail_1 : decode cX11_fail 1 = .ok (.getfield 56, 3) := by decide +kernel
theorem dX11_fail_4 : decode cX11_fail 4 = .ok (.ifCond .eq 4, 3) := by decide +kernel
theorem dX11_fail_7 : decode cX11_fail 7 = .ok (.return_, 1) := by decide +kernel
theorem dX11_fail_8 : decode cX11_fail 8 = .ok (.aload_n 0, 1) := by decide +kernel
theorem dX11_fail_9 : decode cX11_fail 9 = .ok (.iload_n 1, 1) := by decide +kernel
theorem dX11_fail_10 : decode cX11_fail 10 = .ok (.putfield 56, 3) := by decide +kernel
theorem dX11_fail_13 : decode cX11_fail 13 = .ok (.aload_n 0, 1) := by decide +kernel
theorem dX11_fail_14 : decode cX11_fail 14 = .ok (.iload_n 2, 1) := by decide +kernel
theorem dX11_fail_15 : decode cX11_fail 15 = .ok (.putfield 59, 3) := by decide +kernel
theorem dX11_fail_18 : decode cX11_fail 18 = .ok (.return_, 1) := by decide +kernel
theorem dX11_next_0 : decode cX11_next 0 = .ok (.aload_n 0, 1) := by decide +kernel
theorem dX11_next_1 : decode cX11_next 1 = .ok (.getfield 62, 3) := by decide +kernel
theorem dX11_next_4 : decode cX11_next 4 = .ok (.aload_n 0, 1) := by decide +kernel
theorem dX11_next_5 : decode cX11_next 5 = .ok (.getfield 65, 3) := by decide +kernel
theorem dX11_next_8 : decode cX11_next 8 = .ok (.if_icmp .ge 44, 3) := by decide +kernel
theorem dX11_next_11 : decode cX11_next 11 = .ok (.aload_n 0, 1) := by decide +kernel
theorem dX11_next_12 : decode cX11_next 12 = .ok (.getfield 21, 3) := by decide +kernel
theorem dX11_next_15 : decode cX11_next 15 = .ok (.aload_n 0, 1) := by decide +kernel
theorem dX11_next_16 : decode cX11_next 16 = .ok (.getfield 62, 3) := by decide +kernel
theorem dX11_next_19 : decode cX11_next 19 = .ok (.iaload, 1) := by decide +kernel
theorem dX11_next_20 : decode cX11_next 20 = .ok (.bipush 10, 2) := by decide +kernel
theorem dX11_next_22 : decode cX11_next 22 = .ok (.if_icmp .eq 17, 3) := by decide +kernel
theorem dX11_next_25 : decode cX11_next 25 = .ok (.aload_n 0, 1) := by decide +kernel
theorem dX11_next_26 : decode cX11_next 26 = .ok (.getfield 21, 3) := by decide +kernel
theorem dX11_next_29 : decode cX11_next 29 = .ok (.aload_n 0, 1) := by decide +kernel
theorem dX11_next_30 : decode cX11_next 30 = .ok (.getfield 62, 3) := by decide +kernel
theorem dX11_next_33 : decode cX11_next 33 = .ok (.iaload, 1) := by decide +kernel
theorem dX11_next_34 : decode cX11_next 34 = .ok (.bipush 32, 2) := by decide +kernel
theorem dX11_next_36 : decode cX11_next 36 = .ok (.if_icmp .ne 16, 3) := by decide +kernel
theorem dX11_next_39 : decode cX11_next 39 = .ok (.aload_n 0, 1) := by decide +kernel
theorem dX11_next_40 : decode cX11_next 40 = .ok (.dup, 1) := by decide +kernel
theorem dX11_next_41 : decode cX11_next 41 = .ok (.getfield 62, 3) := by decide +kernel
theorem dX11_next_44 : decode cX11_next 44 = .ok (.iconst 1, 1) := by decide +kernel
theorem dX11_next_45 : decode cX11_next 45 = .ok (.iadd, 1) := by decide +kernel
theorem dX11_next_46 : decode cX11_next 46 = .ok (.putfield 62, 3) := by decide +kernel
theorem dX11_next_49 : decode cX11_next 49 = .ok (.goto (-49), 3) := by decide +kernel
theorem dX11_next_52 : decode cX11_next 52 = .ok (.aload_n 0, 1) := by decide +kernel
theorem dX11_next_53 : decode cX11_next 53 = .ok (.getfield 62, 3) := by decide +kernel
theorem dX11_next_56 : decode cX11_next 56 = .ok (.aload_n 0, 1) := by decide +kernel
theorem dX11_next_57 : decode cX11_next 57 = .ok (.getfield 65, 3) := by decide +kernel
theorem dX11_next_60 : decode cX11_next 60 = .ok (.if_icmp .ge 15, 3) := by decide +kernel
theorem dX11_next_63 : decode cX11_next 63 = .ok (.aload_n 0, 1) := by decide +kernel
theorem dX11_next_64 : decode cX11_next 64 = .ok (.getfield 21, 3) := by decide +kernel
theorem dX11_next_67 : decode cX11_next 67 = .ok (.aload_n 0, 1) := by decide +kernel
theorem dX11_next_68 : decode cX11_next 68 = .ok (.getfield 62, 3) := by decide +kernel
theorem dX11_next_71 : decode cX11_next 71 = .ok (.iaload, 1) := by decide +kernel
theorem dX11_next_72 : decode cX11_next 72 = .ok (.goto 4, 3) := by decide +kernel
theorem dX11_next_75 : decode cX11_next 75 = .ok (.iconst (-1), 1) := by decide +kernel
theorem dX11_next_76 : decode cX11_next 76 = .ok (.ireturn, 1) := by decide +kernel
theorem dX11_sign_0 : decode cX11_sign 0 = .ok (.aload_n 0, 1) := by decide +kernel
theorem dX11_sign_1 : decode cX11_sign 1 = .ok (.invokevirtual 68, 3) := by decide +kernel
theorem dX11_sign_4 : decode cX11_sign 4 = .ok (.iload_n 1, 1) := by decide +kernel
theorem dX11_sign_5 : decode cX11_sign 5 = .ok (.if_icmp .ne 16, 3) := by decide +kernel
theorem dX11_sign_8 : decode cX11_sign 8 = .ok (.aload_n 0, 1) := by decide +kernel
theorem dX11_sign_9 : decode cX11_sign 9 = .ok (.dup, 1) := by decide +kernel
theorem dX11_sign_10 : decode cX11_sign 10 = .ok (.getfield 62, 3) := by decide +kernel
theorem dX11_sign_13 : decode cX11_sign 13 = .ok (.iconst 1, 1) := by decide +kernel
theorem dX11_sign_14 : decode cX11_sign 14 = .ok (.iadd, 1) := by decide +kernel
theorem dX11_sign_15 : decode cX11_sign 15 = .ok (.putfield 62, 3) := by decide +kernel
theorem dX11_sign_18 : decode cX11_sign 18 = .ok (.goto 12, 3) := by decide +kernel
theorem dX11_sign_21 : decode cX11_sign 21 = .ok (.aload_n 0, 1) := by decide +kernel
theorem dX11_sign_22 : decode cX11_sign 22 = .ok (.iconst 1, 1) := by decide +kernel
theorem dX11_sign_23 : decode cX11_sign 23 = .ok (.aload_n 0, 1) := by decide +kernel
theorem dX11_sign_24 : decode cX11_sign 24 = .ok (.getfield 62, 3) := by decide +kernel
theorem dX11_sign_27 : decode cX11_sign 27 = .ok (.invokevirtual 72, 3) := by decide +kernel
theorem dX11_sign_30 : decode cX11_sign 30 = .ok (.return_, 1) := by decide +kernel
theorem dX11_isDigit_0 : decode cX11_isDigit 0 = .ok (.iload_n 0, 1) := by decide +kernel
theorem dX11_isDigit_1 : decode cX11_isDigit 1 = .ok (.bipush 48, 2) := by decide +kernel
theorem dX11_isDigit_3 : decode cX11_isDigit 3 = .ok (.if_icmp .lt 13, 3) := by decide +kernel
theorem dX11_isDigit_6 : decode cX11_isDigit 6 = .ok (.iload_n 0, 1) := by decide +kernel
theorem dX11_isDigit_7 : decode cX11_isDigit 7 = .ok (.bipush 57, 2) := by decide +kernel
theorem dX11_isDigit_9 : decode cX11_isDigit 9 = .ok (.if_icmp .gt 7, 3) := by decide +kernel
theorem dX11_isDigit_12 : decode cX11_isDigit 12 = .ok (.iconst 1, 1) := by decide +kernel
theorem dX11_isDigit_13 : decode cX11_isDigit 13 = .ok (.goto 4, 3) := by decide +kernel
theorem dX11_isDigit_16 : decode cX11_isDigit 16 = .ok (.iconst 0, 1) := by decide +kernel
theorem dX11_isDigit_17 : decode cX11_isDigit 17 = .ok (.ireturn, 1) := by decide +kernel
theorem dX11_number_0 : decode cX11_number 0 = .ok (.aload_n 0, 1) := by decide +kernel
theorem dX11_number_1 : decode cX11_number 1 = .ok (.invokevirtual 68, 3) := by decide +kernel
theorem dX11_number_4 : decode cX11_number 4 = .ok (.pop, 1) := by decide +kernel
theorem dX11_number_5 : decode cX11_number 5 = .ok (.aload_n 0, 1) := by decide +kernel
theorem dX11_number_6 : decode cX11_number 6 = .ok (.aload_n 0, 1) := by decide +kernel
theorem dX11_number_7 : decode cX11_number 7 = .ok (.getfield 62, 3) := by decide +kernel
theorem dX11_number_10 : decode cX11_number 10 = .ok (.putfield 76, 3) := by decide +kernel
theorem dX11_number_13 : decode cX11_number 13 = .ok (.iconst 0, 1) := by decide +kernel
theorem dX11_number_14 : decode cX11_number 14 = .ok (.istore_n 3, 1) := by decide +kernel
theorem dX11_number_15 : decode cX11_number 15 = .ok (.aload_n 0, 1) := by decide +kernel
theorem dX11_number_16 : decode cX11_number 16 = .ok (.getfield 62, 3) := by decide +kernel
theorem dX11_number_19 : decode cX11_number 19 = .ok (.aload_n 0, 1) := by decide +kernel
theorem dX11_number_20 : decode cX11_number 20 = .ok (.getfield 65, 3) := by decide +kernel
theorem dX11_number_23 : decode cX11_number 23 = .ok (.if_icmp .ge 73, 3) := by decide +kernel
theorem dX11_number_26 : decode cX11_number 26 = .ok (.aload_n 0, 1) := by decide +kernel
theorem dX11_number_27 : decode cX11_number 27 = .ok (.getfield 21, 3) := by decide +kernel
theorem dX11_number_30 : decode cX11_number 30 = .ok (.aload_n 0, 1) := by decide +kernel
theorem dX11_number_31 : decode cX11_number 31 = .ok (.getfield 62, 3) := by decide +kernel
theorem dX11_number_34 : decode cX11_number 34 = .ok (.iaload, 1) := by decide +kernel
theorem dX11_number_35 : decode cX11_number 35 = .ok (.invokestatic 79, 3) := by decide +kernel
theorem dX11_number_38 : decode cX11_number 38 = .ok (.ifCond .eq 58, 3) := by decide +kernel
theorem dX11_number_41 : decode cX11_number 41 = .ok (.aload_n 0, 1) := by decide +kernel
theorem dX11_number_42 : decode cX11_number 42 = .ok (.getfield 62, 3) := by decide +kernel
theorem dX11_number_45 : decode cX11_number 45 = .ok (.aload_n 0, 1) := by decide +kernel
theorem dX11_number_46 : decode cX11_number 46 = .ok (.getfield 76, 3) := by decide +kernel
theorem dX11_number_49 : decode cX11_number 49 = .ok (.isub, 1) := by decide +kernel
theorem dX11_number_50 : decode cX11_number 50 = .ok (.iconst 3, 1) := by decide +kernel
theorem dX11_number_51 : decode cX11_number 51 = .ok (.if_icmp .ne 14, 3) := by decide +kernel
theorem dX11_number_54 : decode cX11_number 54 = .ok (.aload_n 0, 1) := by decide +kernel
theorem dX11_number_55 : decode cX11_number 55 = .ok (.iconst 1, 1) := by decide +kernel
theorem dX11_number_56 : decode cX11_number 56 = .ok (.aload_n 0, 1) := by decide +kernel
theorem dX11_number_57 : decode cX11_number 57 = .ok (.getfield 62, 3) := by decide +kernel
theorem dX11_number_60 : decode cX11_number 60 = .ok (.invokevirtual 72, 3) := by decide +kernel
theorem dX11_number_63 : decode cX11_number 63 = .ok (.iconst 0, 1) := by decide +kernel
theorem dX11_number_64 : decode cX11_number 64 = .ok (.ireturn, 1) := by decide +kernel
theorem dX11_number_65 : decode cX11_number 65 = .ok (.bipush 10, 2) := by decide +kernel
theorem dX11_number_67 : decode cX11_number 67 = .ok (.iload_n 3, 1) := by decide +kernel
theorem dX11_number_68 : decode cX11_number 68 = .ok (.imul, 1) := by decide +kernel
theorem dX11_number_69 : decode cX11_number 69 = .ok (.aload_n 0, 1) := by decide +kernel
theorem dX11_number_70 : decode cX11_number 70 = .ok (.getfield 21, 3) := by decide +kernel
theorem dX11_number_73 : decode cX11_number 73 = .ok (.aload_n 0, 1) := by decide +kernel
theorem dX11_number_74 : decode cX11_number 74 = .ok (.getfield 62, 3) := by decide +kernel
theorem dX11_number_77 : decode cX11_number 77 = .ok (.iaload, 1) := by decide +kernel
theorem dX11_number_78 : decode cX11_number 78 = .ok (.iadd, 1) := by decide +kernel
theorem dX11_number_79 : decode cX11_number 79 = .ok (.bipush 48, 2) := by decide +kernel
theorem dX11_number_81 : decode cX11_number 81 = .ok (.isub, 1) := by decide +kernel
theorem dX11_number_82 : decode cX11_number 82 = .ok (.istore_n 3, 1) := by decide +kernel
theorem dX11_number_83 : decode cX11_number 83 = .ok (.aload_n 0, 1) := by decide +kernel
theorem dX11_number_84 : decode cX11_number 84 = .ok (.dup, 1) := by decide +kernel
theorem dX11_number_85 : decode cX11_number 85 = .ok (.getfield 62, 3) := by decide +kernel
theorem dX11_number_88 : decode cX11_number 88 = .ok (.iconst 1, 1) := by decide +kernel
theorem dX11_number_89 : decode cX11_number 89 = .ok (.iadd, 1) := by decide +kernel
theorem dX11_number_90 : decode cX11_number 90 = .ok (.putfield 62, 3) := by decide +kernel
theorem dX11_number_93 : decode cX11_number 93 = .ok (.goto (-78), 3) := by decide +kernel
theorem dX11_number_96 : decode cX11_number 96 = .ok (.aload_n 0, 1) := by decide +kernel
theorem dX11_number_97 : decode cX11_number 97 = .ok (.getfield 62, 3) := by decide +kernel
theorem dX11_number_100 : decode cX11_number 100 = .ok (.aload_n 0, 1) := by decide +kernel
theorem dX11_number_101 : decode cX11_number 101 = .ok (.getfield 76, 3) := by decide +kernel
theorem dX11_number_104 : decode cX11_number 104 = .ok (.if_icmp .ne 15, 3) := by decide +kernel
theorem dX11_number_107 : decode cX11_number 107 = .ok (.aload_n 0, 1) := by decide +kernel
theorem dX11_number_108 : decode cX11_number 108 = .ok (.iconst 1, 1) := by decide +kernel
theorem dX11_number_109 : decode cX11_number 109 = .ok (.aload_n 0, 1) := by decide +kernel
theorem dX11_number_110 : decode cX11_number 110 = .ok (.getfield 62, 3) := by decide +kernel
theorem dX11_number_113 : decode cX11_number 113 = .ok (.invokevirtual 72, 3) := by decide +kernel
theorem dX11_number_116 : decode cX11_number 116 = .ok (.goto 22, 3) := by decide +kernel
theorem dX11_number_119 : decode cX11_number 119 = .ok (.iload_n 3, 1) := by decide +kernel
theorem dX11_number_120 : decode cX11_number 120 = .ok (.iload_n 1, 1) := by decide +kernel
theorem dX11_number_121 : decode cX11_number 121 = .ok (.if_icmp .lt 8, 3) := by decide +kernel
theorem dX11_number_124 : decode cX11_number 124 = .ok (.iload_n 3, 1) := by decide +kernel
theorem dX11_number_125 : decode cX11_number 125 = .ok (.iload_n 2, 1) := by decide +kernel
theorem dX11_number_126 : decode cX11_number 126 = .ok (.if_icmp .le 12, 3) := by decide +kernel
theorem dX11_number_129 : decode cX11_number 129 = .ok (.aload_n 0, 1) := by decide +kernel
theorem dX11_number_130 : decode cX11_number 130 = .ok (.iconst 2, 1) := by decide +kernel
theorem dX11_number_131 : decode cX11_number 131 = .ok (.aload_n 0, 1) := by decide +kernel
theorem dX11_number_132 : decode cX11_number 132 = .ok (.getfield 76, 3) := by decide +kernel
theorem dX11_number_135 : decode cX11_number 135 = .ok (.invokevirtual 72, 3) := by decide +kernel
theorem dX11_number_138 : decode cX11_number 138 = .ok (.iload_n 3, 1) := by decide +kernel
theorem dX11_number_139 : decode cX11_number 139 = .ok (.ireturn, 1) := by decide +kernel
theorem dX11_length_0 : decode cX11_length 0 = .ok (.aload_n 0, 1) := by decide +kernel
theorem dX11_length_1 : decode cX11_length 1 = .ok (.invokevirtual 68, 3) := by decide +kernel
theorem dX11_length_4 : decode cX11_length 4 = .ok (.bipush 58, 2) := by decide +kernel
theorem dX11_length_6 : decode cX11_length 6 = .ok (.if_icmp .ne 7, 3) := by decide +kernel
theorem dX11_length_9 : decode cX11_length 9 = .ok (.iconst 1, 1) := by decide +kernel
theorem dX11_length_10 : decode cX11_length 10 = .ok (.goto 4, 3) := by decide +kernel
theorem dX11_length_13 : decode cX11_length 13 = .ok (.iconst 0, 1) := by decide +kernel
theorem dX11_length_14 : decode cX11_length 14 = .ok (.istore_n 2, 1) := by decide +kernel
theorem dX11_length_15 : decode cX11_length 15 = .ok (.iload_n 2, 1) := by decide +kernel
theorem dX11_length_16 : decode cX11_length 16 = .ok (.ifCond .eq 13, 3) := by decide +kernel
theorem dX11_length_19 : decode cX11_length 19 = .ok (.aload_n 0, 1) := by decide +kernel
theorem dX11_length_20 : decode cX11_length 20 = .ok (.dup, 1) := by decide +kernel
theorem dX11_length_21 : decode cX11_length 21 = .ok (.getfield 62, 3) := by decide +kernel
theorem dX11_length_24 : decode cX11_length 24 = .ok (.iconst 1, 1) := by decide +kernel
theorem dX11_length_25 : decode cX11_length 25 = .ok (.iadd, 1) := by decide +kernel
theorem dX11_length_26 : decode cX11_length 26 = .ok (.putfield 62, 3) := by decide +kernel
theorem dX11_length_29 : decode cX11_length 29 = .ok (.iload_n 2, 1) := by decide +kernel
theorem dX11_length_30 : decode cX11_length 30 = .ok (.ifCond .eq 13, 3) := by decide +kernel
theorem dX11_length_33 : decode cX11_length 33 = .ok (.aload_n 0, 1) := by decide +kernel
theorem dX11_length_34 : decode cX11_length 34 = .ok (.iconst 1, 1) := by decide +kernel
theorem dX11_length_35 : decode cX11_length 35 = .ok (.bipush 64, 2) := by decide +kernel
theorem dX11_length_37 : decode cX11_length 37 = .ok (.invokevirtual 83, 3) := by decide +kernel
theorem dX11_length_40 : decode cX11_length 40 = .ok (.goto 4, 3) := by decide +kernel
theorem dX11_length_43 : decode cX11_length 43 = .ok (.iconst (-1), 1) := by decide +kernel
theorem dX11_length_44 : decode cX11_length 44 = .ok (.istore_n 3, 1) := by decide +kernel
theorem dX11_length_45 : decode cX11_length 45 = .ok (.aload_n 0, 1) := by decide +kernel
theorem dX11_length_46 : decode cX11_length 46 = .ok (.getfield 30, 3) := by decide +kernel
theorem dX11_length_49 : decode cX11_length 49 = .ok (.iload_n 1, 1) := by decide +kernel
theorem dX11_length_50 : decode cX11_length 50 = .ok (.iaload, 1) := by decide +kernel
theorem dX11_length_51 : decode cX11_length 51 = .ok (.ifCond .ne 31, 3) := by decide +kernel
theorem dX11_length_54 : decode cX11_length 54 = .ok (.aload_n 0, 1) := by decide +kernel
theorem dX11_length_55 : decode cX11_length 55 = .ok (.getfield 30, 3) := by decide +kernel
theorem dX11_length_58 : decode cX11_length 58 = .ok (.iload_n 1, 1) := by decide +kernel
theorem dX11_length_59 : decode cX11_length 59 = .ok (.iload_n 2, 1) := by decide +kernel
theorem dX11_length_60 : decode cX11_length 60 = .ok (.ifCond .eq 7, 3) := by decide +kernel
theorem dX11_length_63 : decode cX11_length 63 = .ok (.iload_n 3, 1) := by decide +kernel
theorem dX11_length_64 : decode cX11_length 64 = .ok (.goto 7, 3) := by decide +kernel
theorem dX11_length_67 : decode cX11_length 67 = .ok (.aload_n 0, 1) := by decide +kernel
theorem dX11_length_68 : decode cX11_length 68 = .ok (.getfield 87, 3) := by decide +kernel
theorem dX11_length_71 : decode cX11_length 71 = .ok (.iastore, 1) := by decide +kernel
theorem dX11_length_72 : decode cX11_length 72 = .ok (.aload_n 0, 1) := by decide +kernel
theorem dX11_length_73 : decode cX11_length 73 = .ok (.aload_n 0, 1) := by decide +kernel
theorem dX11_length_74 : decode cX11_length 74 = .ok (.getfield 30, 3) := by decide +kernel
theorem dX11_length_77 : decode cX11_length 77 = .ok (.iload_n 1, 1) := by decide +kernel
theorem dX11_length_78 : decode cX11_length 78 = .ok (.iaload, 1) := by decide +kernel
theorem dX11_length_79 : decode cX11_length 79 = .ok (.putfield 87, 3) := by decide +kernel
theorem dX11_length_82 : decode cX11_length 82 = .ok (.aload_n 0, 1) := by decide +kernel
theorem dX11_length_83 : decode cX11_length 83 = .ok (.getfield 30, 3) := by decide +kernel
theorem dX11_length_86 : decode cX11_length 86 = .ok (.iload_n 1, 1) := by decide +kernel
theorem dX11_length_87 : decode cX11_length 87 = .ok (.iaload, 1) := by decide +kernel
theorem dX11_length_88 : decode cX11_length 88 = .ok (.ireturn, 1) := by decide +kernel
theorem dX11_strikesHere_0 : decode cX11_strikesHere 0 = .ok (.aload_n 0, 1) := by decide +kernel
theorem dX11_strikesHere_1 : decode cX11_strikesHere 1 = .ok (.getfield 90, 3) := by decide +kernel
theorem dX11_strikesHere_4 : decode cX11_strikesHere 4 = .ok (.bipush 100, 2) := by decide +kernel
theorem dX11_strikesHere_6 : decode cX11_strikesHere 6 = .ok (.if_icmp .ne 9, 3) := by decide +kernel
theorem dX11_strikesHere_9 : decode cX11_strikesHere 9 = .ok (.aload_n 0, 1) := by decide +kernel
theorem dX11_strikesHere_10 : decode cX11_strikesHere 10 = .ok (.iconst 4, 1) := by decide +kernel
theorem dX11_strikesHere_11 : decode cX11_strikesHere 11 = .ok (.iload_n 3, 1) := by decide +kernel
theorem dX11_strikesHere_12 : decode cX11_strikesHere 12 = .ok (.invokevirtual 72, 3) := by decide +kernel
theorem dX11_strikesHere_15 : decode cX11_strikesHere 15 = .ok (.aload_n 0, 1) := by decide +kernel
theorem dX11_strikesHere_16 : decode cX11_strikesHere 16 = .ok (.getfield 56, 3) := by decide +kernel
theorem dX11_strikesHere_19 : decode cX11_strikesHere 19 = .ok (.ifCond .eq 4, 3) := by decide +kernel
theorem dX11_strikesHere_22 : decode cX11_strikesHere 22 = .ok (.return_, 1) := by decide +kernel
theorem dX11_strikesHere_23 : decode cX11_strikesHere 23 = .ok (.aload_n 0, 1) := by decide +kernel
theorem dX11_strikesHere_24 : decode cX11_strikesHere 24 = .ok (.getfield 90, 3) := by decide +kernel
theorem dX11_strikesHere_27 : decode cX11_strikesHere 27 = .ok (.istore 4, 2) := by decide +kernel
theorem dX11_strikesHere_29 : decode cX11_strikesHere 29 = .ok (.iload 4, 2) := by decide +kernel
theorem dX11_strikesHere_31 : decode cX11_strikesHere 31 = .ok (.ifCond .le 67, 3) := by decide +kernel
theorem dX11_strikesHere_34 : decode cX11_strikesHere 34 = .ok (.aload_n 0, 1) := by decide +kernel
theorem dX11_strikesHere_35 : decode cX11_strikesHere 35 = .ok (.getfield 24, 3) := by decide +kernel
theorem dX11_strikesHere_38 : decode cX11_strikesHere 38 = .ok (.iload 4, 2) := by decide +kernel
theorem dX11_strikesHere_40 : decode cX11_strikesHere 40 = .ok (.iconst 1, 1) := by decide +kernel
theorem dX11_strikesHere_41 : decode cX11_strikesHere 41 = .ok (.isub, 1) := by decide +kernel
theorem dX11_strikesHere_42 : decode cX11_strikesHere 42 = .ok (.iaload, 1) := by decide +kernel
theorem dX11_strikesHere_43 : decode cX11_strikesHere 43 = .ok (.iload_n 1, 1) := by decide +kernel
theorem dX11_strikesHere_44 : decode cX11_strikesHere 44 = .ok (.if_icmp .ne 54, 3) := by decide +kernel
theorem dX11_strikesHere_47 : decode cX11_strikesHere 47 = .ok (.aload_n 0, 1) := by decide +kernel
theorem dX11_strikesHere_48 : decode cX11_strikesHere 48 = .ok (.getfield 27, 3) := by decide +kernel
theorem dX11_strikesHere_51 : decode cX11_strikesHere 51 = .ok (.iload 4, 2) := by decide +kernel
theorem dX11_strikesHere_53 : decode cX11_strikesHere 53 = .ok (.iconst 1, 1) := by decide +kernel
theorem dX11_strikesHere_54 : decode cX11_strikesHere 54 = .ok (.isub, 1) := by decide +kernel
theorem dX11_strikesHere_55 : decode cX11_strikesHere 55 = .ok (.iaload, 1) := by decide +kernel
theorem dX11_strikesHere_56 : decode cX11_strikesHere 56 = .ok (.iload_n 2, 1) := by decide +kernel
theorem dX11_strikesHere_57 : decode cX11_strikesHere 57 = .ok (.if_icmp .le 41, 3) := by decide +kernel
theorem dX11_strikesHere_60 : decode cX11_strikesHere 60 = .ok (.aload_n 0, 1) := by decide +kernel
theorem dX11_strikesHere_61 : decode cX11_strikesHere 61 = .ok (.getfield 24, 3) := by decide +kernel
theorem dX11_strikesHere_64 : decode cX11_strikesHere 64 = .ok (.iload 4, 2) := by decide +kernel
theorem dX11_strikesHere_66 : decode cX11_strikesHere 66 = .ok (.aload_n 0, 1) := by decide +kernel
theorem dX11_strikesHere_67 : decode cX11_strikesHere 67 = .ok (.getfield 24, 3) := by decide +kernel
theorem dX11_strikesHere_70 : decode cX11_strikesHere 70 = .ok (.iload 4, 2) := by decide +kernel
theorem dX11_strikesHere_72 : decode cX11_strikesHere 72 = .ok (.iconst 1, 1) := by decide +kernel
theorem dX11_strikesHere_73 : decode cX11_strikesHere 73 = .ok (.isub, 1) := by decide +kernel
theorem dX11_strikesHere_74 : decode cX11_strikesHere 74 = .ok (.iaload, 1) := by decide +kernel
theorem dX11_strikesHere_75 : decode cX11_strikesHere 75 = .ok (.iastore, 1) := by decide +kernel
theorem dX11_strikesHere_76 : decode cX11_strikesHere 76 = .ok (.aload_n 0, 1) := by decide +kernel
theorem dX11_strikesHere_77 : decode cX11_strikesHere 77 = .ok (.getfield 27, 3) := by decide +kernel
theorem dX11_strikesHere_80 : decode cX11_strikesHere 80 = .ok (.iload 4, 2) := by decide +kernel
theorem dX11_strikesHere_82 : decode cX11_strikesHere 82 = .ok (.aload_n 0, 1) := by decide +kernel
theorem dX11_strikesHere_83 : decode cX11_strikesHere 83 = .ok (.getfield 27, 3) := by decide +kernel
theorem dX11_strikesHere_86 : decode cX11_strikesHere 86 = .ok (.iload 4, 2) := by decide +kernel
theorem dX11_strikesHere_88 : decode cX11_strikesHere 88 = .ok (.iconst 1, 1) := by decide +kernel
theorem dX11_strikesHere_89 : decode cX11_strikesHere 89 = .ok (.isub, 1) := by decide +kernel
theorem dX11_strikesHere_90 : decode cX11_strikesHere 90 = .ok (.iaload, 1) := by decide +kernel
theorem dX11_strikesHere_91 : decode cX11_strikesHere 91 = .ok (.iastore, 1) := by decide +kernel
theorem dX11_strikesHere_92 : decode cX11_strikesHere 92 = .ok (.iinc 4 (-1), 3) := by decide +kernel
theorem dX11_strikesHere_95 : decode cX11_strikesHere 95 = .ok (.goto (-66), 3) := by decide +kernel
theorem dX11_strikesHere_98 : decode cX11_strikesHere 98 = .ok (.aload_n 0, 1) := by decide +kernel
theorem dX11_strikesHere_99 : decode cX11_strikesHere 99 = .ok (.getfield 24, 3) := by decide +kernel
theorem dX11_strikesHere_102 : decode cX11_strikesHere 102 = .ok (.iload 4, 2) := by decide +kernel
theorem dX11_strikesHere_104 : decode cX11_strikesHere 104 = .ok (.iload_n 1, 1) := by decide +kernel
theorem dX11_strikesHere_105 : decode cX11_strikesHere 105 = .ok (.iastore, 1) := by decide +kernel
theorem dX11_strikesHere_106 : decode cX11_strikesHere 106 = .ok (.aload_n 0, 1) := by decide +kernel
theorem dX11_strikesHere_107 : decode cX11_strikesHere 107 = .ok (.getfield 27, 3) := by decide +kernel
theorem dX11_strikesHere_110 : decode cX11_strikesHere 110 = .ok (.iload 4, 2) := by decide +kernel
theorem dX11_strikesHere_112 : decode cX11_strikesHere 112 = .ok (.iload_n 2, 1) := by decide +kernel
theorem dX11_strikesHere_113 : decode cX11_strikesHere 113 = .ok (.iastore, 1) := by decide +kernel
theorem dX11_strikesHere_114 : decode cX11_strikesHere 114 = .ok (.aload_n 0, 1) := by decide +kernel
theorem dX11_strikesHere_115 : decode cX11_strikesHere 115 = .ok (.dup, 1) := by decide +kernel
theorem dX11_strikesHere_116 : decode cX11_strikesHere 116 = .ok (.getfield 90, 3) := by decide +kernel
theorem dX11_strikesHere_119 : decode cX11_strikesHere 119 = .ok (.iconst 1, 1) := by decide +kernel
theorem dX11_strikesHere_120 : decode cX11_strikesHere 120 = .ok (.iadd, 1) := by decide +kernel
theorem dX11_strikesHere_121 : decode cX11_strikesHere 121 = .ok (.putfield 90, 3) := by decide +kernel
theorem dX11_strikesHere_124 : decode cX11_strikesHere 124 = .ok (.return_, 1) := by decide +kernel
theorem dX11_item_0 : decode cX11_item 0 = .ok (.aload_n 0, 1) := by decide +kernel
theorem dX11_item_1 : decode cX11_item 1 = .ok (.getfield 62, 3) := by decide +kernel
theorem dX11_item_4 : decode cX11_item 4 = .ok (.istore_n 1, 1) := by decide +kernel
theorem dX11_item_5 : decode cX11_item 5 = .ok (.aload_n 0, 1) := by decide +kernel
theorem dX11_item_6 : decode cX11_item 6 = .ok (.invokevirtual 68, 3) := by decide +kernel
theorem dX11_item_9 : decode cX11_item 9 = .ok (.istore_n 2, 1) := by decide +kernel
theorem dX11_item_10 : decode cX11_item 10 = .ok (.iconst 0, 1) := by decide +kernel
theorem dX11_item_11 : decode cX11_item 11 = .ok (.istore_n 3, 1) := by decide +kernel
theorem dX11_item_12 : decode cX11_item 12 = .ok (.iload_n 2, 1) := by decide +kernel
theorem dX11_item_13 : decode cX11_item 13 = .ok (.bipush 98, 2) := by decide +kernel
theorem dX11_item_15 : decode cX11_item 15 = .ok (.if_icmp .eq 31, 3) := by decide +kernel
theorem dX11_item_18 : decode cX11_item 18 = .ok (.iload_n 2, 1) := by decide +kernel
theorem dX11_item_19 : decode cX11_item 19 = .ok (.bipush 40, 2) := by decide +kernel
theorem dX11_item_21 : decode cX11_item 21 = .ok (.if_icmp .eq 25, 3) := by decide +kernel
theorem dX11_item_24 : decode cX11_item 24 = .ok (.iload_n 2, 1) := by decide +kernel
theorem dX11_item_25 : decode cX11_item 25 = .ok (.bipush 95, 2) := by decide +kernel
theorem dX11_item_27 : decode cX11_item 27 = .ok (.if_icmp .eq 19, 3) := by decide +kernel
theorem dX11_item_30 : decode cX11_item 30 = .ok (.iload_n 2, 1) := by decide +kernel
theorem dX11_item_31 : decode cX11_item 31 = .ok (.bipush 116, 2) := by decide +kernel
theorem dX11_item_33 : decode cX11_item 33 = .ok (.if_icmp .eq 13, 3) := by decide +kernel
theorem dX11_item_36 : decode cX11_item 36 = .ok (.aload_n 0, 1) := by decide +kernel
theorem dX11_item_37 : decode cX11_item 37 = .ok (.iconst 1, 1) := by decide +kernel
theorem dX11_item_38 : decode cX11_item 38 = .ok (.aload_n 0, 1) := by decide +kernel
theorem dX11_item_39 : decode cX11_item 39 = .ok (.getfield 62, 3) := by decide +kernel
theorem dX11_item_42 : decode cX11_item 42 = .ok (.invokevirtual 72, 3) := by decide +kernel
theorem dX11_item_45 : decode cX11_item 45 = .ok (.return_, 1) := by decide +kernel
theorem dX11_item_46 : decode cX11_item 46 = .ok (.aload_n 0, 1) := by decide +kernel
theorem dX11_item_47 : decode cX11_item 47 = .ok (.getfield 93, 3) := by decide +kernel
theorem dX11_item_50 : decode cX11_item 50 = .ok (.sipush 1999, 3) := by decide +kernel
theorem dX11_item_53 : decode cX11_item 53 = .ok (.if_icmp .le 9, 3) := by decide +kernel
theorem dX11_item_56 : decode cX11_item 56 = .ok (.aload_n 0, 1) := by decide +kernel
theorem dX11_item_57 : decode cX11_item 57 = .ok (.iconst 4, 1) := by decide +kernel
theorem dX11_item_58 : decode cX11_item 58 = .ok (.iload_n 1, 1) := by decide +kernel
theorem dX11_item_59 : decode cX11_item 59 = .ok (.invokevirtual 72, 3) := by decide +kernel
theorem dX11_item_62 : decode cX11_item 62 = .ok (.aload_n 0, 1) := by decide +kernel
theorem dX11_item_63 : decode cX11_item 63 = .ok (.dup, 1) := by decide +kernel
theorem dX11_item_64 : decode cX11_item 64 = .ok (.getfield 62, 3) := by decide +kernel
theorem dX11_item_67 : decode cX11_item 67 = .ok (.iconst 1, 1) := by decide +kernel
theorem dX11_item_68 : decode cX11_item 68 = .ok (.iadd, 1) := by decide +kernel
theorem dX11_item_69 : decode cX11_item 69 = .ok (.putfield 62, 3) := by decide +kernel
theorem dX11_item_72 : decode cX11_item 72 = .ok (.iload_n 2, 1) := by decide +kernel
theorem dX11_item_73 : decode cX11_item 73 = .ok (.bipush 95, 2) := by decide +kernel
theorem dX11_item_75 : decode cX11_item 75 = .ok (.if_icmp .eq 25, 3) := by decide +kernel
theorem dX11_item_78 : decode cX11_item 78 = .ok (.aload_n 0, 1) := by decide +kernel
theorem dX11_item_79 : decode cX11_item 79 = .ok (.getfield 56, 3) := by decide +kernel
theorem dX11_item_82 : decode cX11_item 82 = .ok (.ifCond .ne 18, 3) := by decide +kernel
theorem dX11_item_85 : decode cX11_item 85 = .ok (.aload_n 0, 1) := by decide +kernel
theorem dX11_item_86 : decode cX11_item 86 = .ok (.getfield 39, 3) := by decide +kernel
theorem dX11_item_89 : decode cX11_item 89 = .ok (.iconst 0, 1) := by decide +kernel
theorem dX11_item_90 : decode cX11_item 90 = .ok (.aload_n 0, 1) := by decide +kernel
theorem dX11_item_91 : decode cX11_item 91 = .ok (.iconst 0, 1) := by decide +kernel
theorem dX11_item_92 : decode cX11_item 92 = .ok (.bipush 23, 2) := by decide +kernel
theorem dX11_item_94 : decode cX11_item 94 = .ok (.invokevirtual 83, 3) := by decide +kernel
theorem dX11_item_97 : decode cX11_item 97 = .ok (.iastore, 1) := by decide +kernel
theorem dX11_item_98 : decode cX11_item 98 = .ok (.iconst 1, 1) := by decide +kernel
theorem dX11_item_99 : decode cX11_item 99 = .ok (.istore_n 3, 1) := by decide +kernel
theorem dX11_item_100 : decode cX11_item 100 = .ok (.aload_n 0, 1) := by decide +kernel
theorem dX11_item_101 : decode cX11_item 101 = .ok (.getfield 56, 3) := by decide +kernel
theorem dX11_item_104 : decode cX11_item 104 = .ok (.ifCond .ne 123, 3) := by decide +kernel
theorem dX11_item_107 : decode cX11_item 107 = .ok (.iload_n 2, 1) := by decide +kernel
theorem dX11_item_108 : decode cX11_item 108 = .ok (.bipush 40, 2) := by decide +kernel
theorem dX11_item_110 : decode cX11_item 110 = .ok (.if_icmp .ne 12, 3) := by decide +kernel
theorem dX11_item_113 : decode cX11_item 113 = .ok (.aload_n 0, 1) := by decide +kernel
theorem dX11_item_114 : decode cX11_item 114 = .ok (.invokevirtual 68, 3) := by decide +kernel
theorem dX11_item_117 : decode cX11_item 117 = .ok (.bipush 41, 2) := by decide +kernel
theorem dX11_item_119 : decode cX11_item 119 = .ok (.if_icmp .ne 14, 3) := by decide +kernel
theorem dX11_item_122 : decode cX11_item 122 = .ok (.iload_n 2, 1) := by decide +kernel
theorem dX11_item_123 : decode cX11_item 123 = .ok (.bipush 116, 2) := by decide +kernel
theorem dX11_item_125 : decode cX11_item 125 = .ok (.if_icmp .ne 102, 3) := by decide +kernel
theorem dX11_item_128 : decode cX11_item 128 = .ok (.iload_n 3, 1) := by decide +kernel
theorem dX11_item_129 : decode cX11_item 129 = .ok (.iconst 2, 1) := by decide +kernel
theorem dX11_item_130 : decode cX11_item 130 = .ok (.if_icmp .ge 97, 3) := by decide +kernel
theorem dX11_item_133 : decode cX11_item 133 = .ok (.aload_n 0, 1) := by decide +kernel
theorem dX11_item_134 : decode cX11_item 134 = .ok (.iconst 0, 1) := by decide +kernel
theorem dX11_item_135 : decode cX11_item 135 = .ok (.bipush 23, 2) := by decide +kernel
theorem dX11_item_137 : decode cX11_item 137 = .ok (.invokevirtual 83, 3) := by decide +kernel
theorem dX11_item_140 : decode cX11_item 140 = .ok (.istore 4, 2) := by decide +kernel
theorem dX11_item_142 : decode cX11_item 142 = .ok (.aload_n 0, 1) := by decide +kernel
theorem dX11_item_143 : decode cX11_item 143 = .ok (.getfield 56, 3) := by decide +kernel
theorem dX11_item_146 : decode cX11_item 146 = .ok (.ifCond .ne 17, 3) := by decide +kernel
theorem dX11_item_149 : decode cX11_item 149 = .ok (.iload_n 3, 1) := by decide +kernel
theorem dX11_item_150 : decode cX11_item 150 = .ok (.iconst 4, 1) := by decide +kernel
theorem dX11_item_151 : decode cX11_item 151 = .ok (.if_icmp .ne 12, 3) := by decide +kernel
theorem dX11_item_154 : decode cX11_item 154 = .ok (.aload_n 0, 1) := by decide +kernel
theorem dX11_item_155 : decode cX11_item 155 = .ok (.iconst 2, 1) := by decide +kernel
theorem dX11_item_156 : decode cX11_item 156 = .ok (.aload_n 0, 1) := by decide +kernel
theorem dX11_item_157 : decode cX11_item 157 = .ok (.getfield 76, 3) := by decide +kernel
theorem dX11_item_160 : decode cX11_item 160 = .ok (.invokevirtual 72, 3) := by decide +kernel
theorem dX11_item_163 : decode cX11_item 163 = .ok (.iconst 0, 1) := by decide +kernel
theorem dX11_item_164 : decode cX11_item 164 = .ok (.istore 5, 2) := by decide +kernel
theorem dX11_item_166 : decode cX11_item 166 = .ok (.iload 5, 2) := by decide +kernel
theorem dX11_item_168 : decode cX11_item 168 = .ok (.iload_n 3, 1) := by decide +kernel
theorem dX11_item_169 : decode cX11_item 169 = .ok (.if_icmp .ge 37, 3) := by decide +kernel
theorem dX11_item_172 : decode cX11_item 172 = .ok (.aload_n 0, 1) := by decide +kernel
theorem dX11_item_173 : decode cX11_item 173 = .ok (.getfield 56, 3) := by decide +kernel
theorem dX11_item_176 : decode cX11_item 176 = .ok (.ifCond .ne 30, 3) := by decide +kernel
theorem dX11_item_179 : decode cX11_item 179 = .ok (.aload_n 0, 1) := by decide +kernel
theorem dX11_item_180 : decode cX11_item 180 = .ok (.getfield 39, 3) := by decide +kernel
theorem dX11_item_183 : decode cX11_item 183 = .ok (.iload 5, 2) := by decide +kernel
theorem dX11_item_185 : decode cX11_item 185 = .ok (.iaload, 1) := by decide +kernel
theorem dX11_item_186 : decode cX11_item 186 = .ok (.iload 4, 2) := by decide +kernel
theorem dX11_item_188 : decode cX11_item 188 = .ok (.if_icmp .ne 12, 3) := by decide +kernel
theorem dX11_item_191 : decode cX11_item 191 = .ok (.aload_n 0, 1) := by decide +kernel
theorem dX11_item_192 : decode cX11_item 192 = .ok (.iconst 2, 1) := by decide +kernel
theorem dX11_item_193 : decode cX11_item 193 = .ok (.aload_n 0, 1) := by decide +kernel
theorem dX11_item_194 : decode cX11_item 194 = .ok (.getfield 76, 3) := by decide +kernel
theorem dX11_item_197 : decode cX11_item 197 = .ok (.invokevirtual 72, 3) := by decide +kernel
theorem dX11_item_200 : decode cX11_item 200 = .ok (.iinc 5 1, 3) := by decide +kernel
theorem dX11_item_203 : decode cX11_item 203 = .ok (.goto (-37), 3) := by decide +kernel
theorem dX11_item_206 : decode cX11_item 206 = .ok (.aload_n 0, 1) := by decide +kernel
theorem dX11_item_207 : decode cX11_item 207 = .ok (.getfield 56, 3) := by decide +kernel
theorem dX11_item_210 : decode cX11_item 210 = .ok (.ifCond .ne 14, 3) := by decide +kernel
theorem dX11_item_213 : decode cX11_item 213 = .ok (.aload_n 0, 1) := by decide +kernel
theorem dX11_item_214 : decode cX11_item 214 = .ok (.getfield 39, 3) := by decide +kernel
theorem dX11_item_217 : decode cX11_item 217 = .ok (.iload_n 3, 1) := by decide +kernel
theorem dX11_item_218 : decode cX11_item 218 = .ok (.iload 4, 2) := by decide +kernel
theorem dX11_item_220 : decode cX11_item 220 = .ok (.iastore, 1) := by decide +kernel
theorem dX11_item_221 : decode cX11_item 221 = .ok (.iinc 3 1, 3) := by decide +kernel
theorem dX11_item_224 : decode cX11_item 224 = .ok (.goto (-124), 3) := by decide +kernel
theorem dX11_item_227 : decode cX11_item 227 = .ok (.aload_n 0, 1) := by decide +kernel
theorem dX11_item_228 : decode cX11_item 228 = .ok (.getfield 56, 3) := by decide +kernel
theorem dX11_item_231 : decode cX11_item 231 = .ok (.ifCond .ne 19, 3) := by decide +kernel
theorem dX11_item_234 : decode cX11_item 234 = .ok (.iload_n 2, 1) := by decide +kernel
theorem dX11_item_235 : decode cX11_item 235 = .ok (.bipush 40, 2) := by decide +kernel
theorem dX11_item_237 : decode cX11_item 237 = .ok (.if_icmp .ne 13, 3) := by decide +kernel
theorem dX11_item_240 : decode cX11_item 240 = .ok (.aload_n 0, 1) := by decide +kernel
theorem dX11_item_241 : decode cX11_item 241 = .ok (.dup, 1) := by decide +kernel
theorem dX11_item_242 : decode cX11_item 242 = .ok (.getfield 62, 3) := by decide +kernel
theorem dX11_item_245 : decode cX11_item 245 = .ok (.iconst 1, 1) := by decide +kernel
theorem dX11_item_246 : decode cX11_item 246 = .ok (.iadd, 1) := by decide +kernel
theorem dX11_item_247 : decode cX11_item 247 = .ok (.putfield 62, 3) := by decide +kernel
theorem dX11_item_250 : decode cX11_item 250 = .ok (.aload_n 0, 1) := by decide +kernel
theorem dX11_item_251 : decode cX11_item 251 = .ok (.getfield 56, 3) := by decide +kernel
theorem dX11_item_254 : decode cX11_item 254 = .ok (.ifCond .ne 11, 3) := by decide +kernel
theorem dX11_item_257 : decode cX11_item 257 = .ok (.aload_n 0, 1) := by decide +kernel
theorem dX11_item_258 : decode cX11_item 258 = .ok (.iload_n 1, 1) := by decide +kernel
theorem dX11_item_259 : decode cX11_item 259 = .ok (.invokevirtual 96, 3) := by decide +kernel
theorem dX11_item_262 : decode cX11_item 262 = .ok (.goto 4, 3) := by decide +kernel
theorem dX11_item_265 : decode cX11_item 265 = .ok (.iconst 0, 1) := by decide +kernel
theorem dX11_item_266 : decode cX11_item 266 = .ok (.istore 4, 2) := by decide +kernel
theorem dX11_item_268 : decode cX11_item 268 = .ok (.iload_n 2, 1) := by decide +kernel
theorem dX11_item_269 : decode cX11_item 269 = .ok (.bipush 116, 2) := by decide +kernel
theorem dX11_item_271 : decode cX11_item 271 = .ok (.if_icmp .ne 50, 3) := by decide +kernel
theorem dX11_item_274 : decode cX11_item 274 = .ok (.iconst 0, 1) := by decide +kernel
theorem dX11_item_275 : decode cX11_item 275 = .ok (.istore 5, 2) := by decide +kernel
theorem dX11_item_277 : decode cX11_item 277 = .ok (.iload 5, 2) := by decide +kernel
theorem dX11_item_279 : decode cX11_item 279 = .ok (.iload 4, 2) := by decide +kernel
theorem dX11_item_281 : decode cX11_item 281 = .ok (.if_icmp .ge 37, 3) := by decide +kernel
theorem dX11_item_284 : decode cX11_item 284 = .ok (.aload_n 0, 1) := by decide +kernel
theorem dX11_item_285 : decode cX11_item 285 = .ok (.getfield 56, 3) := by decide +kernel
theorem dX11_item_288 : decode cX11_item 288 = .ok (.ifCond .ne 30, 3) := by decide +kernel
theorem dX11_item_291 : decode cX11_item 291 = .ok (.aload_n 0, 1) := by decide +kernel
theorem dX11_item_292 : decode cX11_item 292 = .ok (.aload_n 0, 1) := by decide +kernel
theorem dX11_item_293 : decode cX11_item 293 = .ok (.getfield 93, 3) := by decide +kernel
theorem dX11_item_296 : decode cX11_item 296 = .ok (.iload 5, 2) := by decide +kernel
theorem dX11_item_298 : decode cX11_item 298 = .ok (.iadd, 1) := by decide +kernel
theorem dX11_item_299 : decode cX11_item 299 = .ok (.aload_n 0, 1) := by decide +kernel
theorem dX11_item_300 : decode cX11_item 300 = .ok (.getfield 39, 3) := by decide +kernel
theorem dX11_item_303 : decode cX11_item 303 = .ok (.iload 5, 2) := by decide +kernel
theorem dX11_item_305 : decode cX11_item 305 = .ok (.iconst 2, 1) := by decide +kernel
theorem dX11_item_306 : decode cX11_item 306 = .ok (.irem, 1) := by decide +kernel
theorem dX11_item_307 : decode cX11_item 307 = .ok (.iaload, 1) := by decide +kernel
theorem dX11_item_308 : decode cX11_item 308 = .ok (.iload_n 1, 1) := by decide +kernel
theorem dX11_item_309 : decode cX11_item 309 = .ok (.invokevirtual 100, 3) := by decide +kernel
theorem dX11_item_312 : decode cX11_item 312 = .ok (.iinc 5 1, 3) := by decide +kernel
theorem dX11_item_315 : decode cX11_item 315 = .ok (.goto (-38), 3) := by decide +kernel
theorem dX11_item_318 : decode cX11_item 318 = .ok (.goto 41, 3) := by decide +kernel
theorem dX11_item_321 : decode cX11_item 321 = .ok (.iconst 0, 1) := by decide +kernel
theorem dX11_item_322 : decode cX11_item 322 = .ok (.istore 5, 2) := by decide +kernel
theorem dX11_item_324 : decode cX11_item 324 = .ok (.iload 5, 2) := by decide +kernel
theorem dX11_item_326 : decode cX11_item 326 = .ok (.iload_n 3, 1) := by decide +kernel
theorem dX11_item_327 : decode cX11_item 327 = .ok (.if_icmp .ge 32, 3) := by decide +kernel
theorem dX11_item_330 : decode cX11_item 330 = .ok (.aload_n 0, 1) := by decide +kernel
theorem dX11_item_331 : decode cX11_item 331 = .ok (.getfield 56, 3) := by decide +kernel
theorem dX11_item_334 : decode cX11_item 334 = .ok (.ifCond .ne 25, 3) := by decide +kernel
theorem dX11_item_337 : decode cX11_item 337 = .ok (.aload_n 0, 1) := by decide +kernel
theorem dX11_item_338 : decode cX11_item 338 = .ok (.aload_n 0, 1) := by decide +kernel
theorem dX11_item_339 : decode cX11_item 339 = .ok (.getfield 93, 3) := by decide +kernel
theorem dX11_item_342 : decode cX11_item 342 = .ok (.aload_n 0, 1) := by decide +kernel
theorem dX11_item_343 : decode cX11_item 343 = .ok (.getfield 39, 3) := by decide +kernel
theorem dX11_item_346 : decode cX11_item 346 = .ok (.iload 5, 2) := by decide +kernel
theorem dX11_item_348 : decode cX11_item 348 = .ok (.iaload, 1) := by decide +kernel
theorem dX11_item_349 : decode cX11_item 349 = .ok (.iload_n 1, 1) := by decide +kernel
theorem dX11_item_350 : decode cX11_item 350 = .ok (.invokevirtual 100, 3) := by decide +kernel
theorem dX11_item_353 : decode cX11_item 353 = .ok (.iinc 5 1, 3) := by decide +kernel
theorem dX11_item_356 : decode cX11_item 356 = .ok (.goto (-32), 3) := by decide +kernel
theorem dX11_item_359 : decode cX11_item 359 = .ok (.aload_n 0, 1) := by decide +kernel
theorem dX11_item_360 : decode cX11_item 360 = .ok (.dup, 1) := by decide +kernel
theorem dX11_item_361 : decode cX11_item 361 = .ok (.getfield 93, 3) := by decide +kernel
theorem dX11_item_364 : decode cX11_item 364 = .ok (.iload 4, 2) := by decide +kernel
theorem dX11_item_366 : decode cX11_item 366 = .ok (.iadd, 1) := by decide +kernel
theorem dX11_item_367 : decode cX11_item 367 = .ok (.putfield 93, 3) := by decide +kernel
theorem dX11_item_370 : decode cX11_item 370 = .ok (.return_, 1) := by decide +kernel
theorem dX11_group_0 : decode cX11_group 0 = .ok (.aload_n 0, 1) := by decide +kernel
theorem dX11_group_1 : decode cX11_group 1 = .ok (.iconst 1, 1) := by decide +kernel
theorem dX11_group_2 : decode cX11_group 2 = .ok (.bipush 9, 2) := by decide +kernel
theorem dX11_group_4 : decode cX11_group 4 = .ok (.invokevirtual 83, 3) := by decide +kernel
theorem dX11_group_7 : decode cX11_group 7 = .ok (.istore_n 1, 1) := by decide +kernel
theorem dX11_group_8 : decode cX11_group 8 = .ok (.aload_n 0, 1) := by decide +kernel
theorem dX11_group_9 : decode cX11_group 9 = .ok (.getfield 56, 3) := by decide +kernel
theorem dX11_group_12 : decode cX11_group 12 = .ok (.ifCond .ne 9, 3) := by decide +kernel
theorem dX11_group_15 : decode cX11_group 15 = .ok (.aload_n 0, 1) := by decide +kernel
theorem dX11_group_16 : decode cX11_group 16 = .ok (.bipush 120, 2) := by decide +kernel
theorem dX11_group_18 : decode cX11_group 18 = .ok (.invokevirtual 104, 3) := by decide +kernel
theorem dX11_group_21 : decode cX11_group 21 = .ok (.aload_n 0, 1) := by decide +kernel
theorem dX11_group_22 : decode cX11_group 22 = .ok (.getfield 56, 3) := by decide +kernel
theorem dX11_group_25 : decode cX11_group 25 = .ok (.ifCond .eq 4, 3) := by decide +kernel
theorem dX11_group_28 : decode cX11_group 28 = .ok (.return_, 1) := by decide +kernel
theorem dX11_group_29 : decode cX11_group 29 = .ok (.aload_n 0, 1) := by decide +kernel
theorem dX11_group_30 : decode cX11_group 30 = .ok (.invokevirtual 68, 3) := by decide +kernel
theorem dX11_group_33 : decode cX11_group 33 = .ok (.bipush 123, 2) := by decide +kernel
theorem dX11_group_35 : decode cX11_group 35 = .ok (.if_icmp .eq 15, 3) := by decide +kernel
theorem dX11_group_38 : decode cX11_group 38 = .ok (.aload_n 0, 1) := by decide +kernel
theorem dX11_group_39 : decode cX11_group 39 = .ok (.iconst 1, 1) := by decide +kernel
theorem dX11_group_40 : decode cX11_group 40 = .ok (.aload_n 0, 1) := by decide +kernel
theorem dX11_group_41 : decode cX11_group 41 = .ok (.getfield 62, 3) := by decide +kernel
theorem dX11_group_44 : decode cX11_group 44 = .ok (.invokevirtual 72, 3) := by decide +kernel
theorem dX11_group_47 : decode cX11_group 47 = .ok (.goto 20, 3) := by decide +kernel
theorem dX11_group_50 : decode cX11_group 50 = .ok (.aload_n 0, 1) := by decide +kernel
theorem dX11_group_51 : decode cX11_group 51 = .ok (.getfield 108, 3) := by decide +kernel
theorem dX11_group_54 : decode cX11_group 54 = .ok (.iconst 4, 1) := by decide +kernel
theorem dX11_group_55 : decode cX11_group 55 = .ok (.if_icmp .ne 12, 3) := by decide +kernel
theorem dX11_group_58 : decode cX11_group 58 = .ok (.aload_n 0, 1) := by decide +kernel
theorem dX11_group_59 : decode cX11_group 59 = .ok (.iconst 3, 1) := by decide +kernel
theorem dX11_group_60 : decode cX11_group 60 = .ok (.aload_n 0, 1) := by decide +kernel
theorem dX11_group_61 : decode cX11_group 61 = .ok (.getfield 62, 3) := by decide +kernel
theorem dX11_group_64 : decode cX11_group 64 = .ok (.invokevirtual 72, 3) := by decide +kernel
theorem dX11_group_67 : decode cX11_group 67 = .ok (.aload_n 0, 1) := by decide +kernel
theorem dX11_group_68 : decode cX11_group 68 = .ok (.getfield 56, 3) := by decide +kernel
theorem dX11_group_71 : decode cX11_group 71 = .ok (.ifCond .eq 4, 3) := by decide +kernel
theorem dX11_group_74 : decode cX11_group 74 = .ok (.return_, 1) := by decide +kernel
theorem dX11_group_75 : decode cX11_group 75 = .ok (.aload_n 0, 1) := by decide +kernel
theorem dX11_group_76 : decode cX11_group 76 = .ok (.dup, 1) := by decide +kernel
theorem dX11_group_77 : decode cX11_group 77 = .ok (.getfield 62, 3) := by decide +kernel
theorem dX11_group_80 : decode cX11_group 80 = .ok (.iconst 1, 1) := by decide +kernel
theorem dX11_group_81 : decode cX11_group 81 = .ok (.iadd, 1) := by decide +kernel
theorem dX11_group_82 : decode cX11_group 82 = .ok (.putfield 62, 3) := by decide +kernel
theorem dX11_group_85 : decode cX11_group 85 = .ok (.aload_n 0, 1) := by decide +kernel
theorem dX11_group_86 : decode cX11_group 86 = .ok (.getfield 33, 3) := by decide +kernel
theorem dX11_group_89 : decode cX11_group 89 = .ok (.aload_n 0, 1) := by decide +kernel
theorem dX11_group_90 : decode cX11_group 90 = .ok (.getfield 108, 3) := by decide +kernel
theorem dX11_group_93 : decode cX11_group 93 = .ok (.aload_n 0, 1) := by decide +kernel
theorem dX11_group_94 : decode cX11_group 94 = .ok (.getfield 62, 3) := by decide +kernel
theorem dX11_group_97 : decode cX11_group 97 = .ok (.iastore, 1) := by decide +kernel
theorem dX11_group_98 : decode cX11_group 98 = .ok (.aload_n 0, 1) := by decide +kernel
theorem dX11_group_99 : decode cX11_group 99 = .ok (.getfield 36, 3) := by decide +kernel
theorem dX11_group_102 : decode cX11_group 102 = .ok (.aload_n 0, 1) := by decide +kernel
theorem dX11_group_103 : decode cX11_group 103 = .ok (.getfield 108, 3) := by decide +kernel
theorem dX11_group_106 : decode cX11_group 106 = .ok (.iload_n 1, 1) := by decide +kernel
theorem dX11_group_107 : decode cX11_group 107 = .ok (.iastore, 1) := by decide +kernel
theorem dX11_group_108 : decode cX11_group 108 = .ok (.aload_n 0, 1) := by decide +kernel
theorem dX11_group_109 : decode cX11_group 109 = .ok (.dup, 1) := by decide +kernel
theorem dX11_group_110 : decode cX11_group 110 = .ok (.getfield 108, 3) := by decide +kernel
theorem dX11_group_113 : decode cX11_group 113 = .ok (.iconst 1, 1) := by decide +kernel
theorem dX11_group_114 : decode cX11_group 114 = .ok (.iadd, 1) := by decide +kernel
theorem dX11_group_115 : decode cX11_group 115 = .ok (.putfield 108, 3) := by decide +kernel
theorem dX11_group_118 : decode cX11_group 118 = .ok (.return_, 1) := by decide +kernel
theorem dX11_ends_0 : decode cX11_ends 0 = .ok (.aload_n 0, 1) := by decide +kernel
theorem dX11_ends_1 : decode cX11_ends 1 = .ok (.getfield 108, 3) := by decide +kernel
theorem dX11_ends_4 : decode cX11_ends 4 = .ok (.ifCond .ne 13, 3) := by decide +kernel
theorem dX11_ends_7 : decode cX11_ends 7 = .ok (.aload_n 0, 1) := by decide +kernel
theorem dX11_ends_8 : decode cX11_ends 8 = .ok (.iconst 1, 1) := by decide +kernel
theorem dX11_ends_9 : decode cX11_ends 9 = .ok (.aload_n 0, 1) := by decide +kernel
theorem dX11_ends_10 : decode cX11_ends 10 = .ok (.getfield 62, 3) := by decide +kernel
theorem dX11_ends_13 : decode cX11_ends 13 = .ok (.invokevirtual 72, 3) := by decide +kernel
theorem dX11_ends_16 : decode cX11_ends 16 = .ok (.return_, 1) := by decide +kernel
theorem dX11_ends_17 : decode cX11_ends 17 = .ok (.aload_n 0, 1) := by decide +kernel
theorem dX11_ends_18 : decode cX11_ends 18 = .ok (.getfield 36, 3) := by decide +kernel
theorem dX11_ends_21 : decode cX11_ends 21 = .ok (.aload_n 0, 1) := by decide +kernel
theorem dX11_ends_22 : decode cX11_ends 22 = .ok (.getfield 108, 3) := by decide +kernel
theorem dX11_ends_25 : decode cX11_ends 25 = .ok (.iconst 1, 1) := by decide +kernel
theorem dX11_ends_26 : decode cX11_ends 26 = .ok (.isub, 1) := by decide +kernel
theorem dX11_ends_27 : decode cX11_ends 27 = .ok (.dup2, 1) := by decide +kernel
theorem dX11_ends_28 : decode cX11_ends 28 = .ok (.iaload, 1) := by decide +kernel
theorem dX11_ends_29 : decode cX11_ends 29 = .ok (.iconst 1, 1) := by decide +kernel
theorem dX11_ends_30 : decode cX11_ends 30 = .ok (.isub, 1) := by decide +kernel
theorem dX11_ends_31 : decode cX11_ends 31 = .ok (.iastore, 1) := by decide +kernel
theorem dX11_ends_32 : decode cX11_ends 32 = .ok (.aload_n 0, 1) := by decide +kernel
theorem dX11_ends_33 : decode cX11_ends 33 = .ok (.getfield 36, 3) := by decide +kernel
theorem dX11_ends_36 : decode cX11_ends 36 = .ok (.aload_n 0, 1) := by decide +kernel
theorem dX11_ends_37 : decode cX11_ends 37 = .ok (.getfield 108, 3) := by decide +kernel
theorem dX11_ends_40 : decode cX11_ends 40 = .ok (.iconst 1, 1) := by decide +kernel
theorem dX11_ends_41 : decode cX11_ends 41 = .ok (.isub, 1) := by decide +kernel
theorem dX11_ends_42 : decode cX11_ends 42 = .ok (.iaload, 1) := by decide +kernel
theorem dX11_ends_43 : decode cX11_ends 43 = .ok (.ifCond .le 21, 3) := by decide +kernel
theorem dX11_ends_46 : decode cX11_ends 46 = .ok (.aload_n 0, 1) := by decide +kernel
theorem dX11_ends_47 : decode cX11_ends 47 = .ok (.aload_n 0, 1) := by decide +kernel
theorem dX11_ends_48 : decode cX11_ends 48 = .ok (.getfield 33, 3) := by decide +kernel
theorem dX11_ends_51 : decode cX11_ends 51 = .ok (.aload_n 0, 1) := by decide +kernel
theorem dX11_ends_52 : decode cX11_ends 52 = .ok (.getfield 108, 3) := by decide +kernel
theorem dX11_ends_55 : decode cX11_ends 55 = .ok (.iconst 1, 1) := by decide +kernel
theorem dX11_ends_56 : decode cX11_ends 56 = .ok (.isub, 1) := by decide +kernel
theorem dX11_ends_57 : decode cX11_ends 57 = .ok (.iaload, 1) := by decide +kernel
theorem dX11_ends_58 : decode cX11_ends 58 = .ok (.putfield 62, 3) := by decide +kernel
theorem dX11_ends_61 : decode cX11_ends 61 = .ok (.goto 23, 3) := by decide +kernel
theorem dX11_ends_64 : decode cX11_ends 64 = .ok (.aload_n 0, 1) := by decide +kernel
theorem dX11_ends_65 : decode cX11_ends 65 = .ok (.dup, 1) := by decide +kernel
theorem dX11_ends_66 : decode cX11_ends 66 = .ok (.getfield 62, 3) := by decide +kernel
theorem dX11_ends_69 : decode cX11_ends 69 = .ok (.iconst 1, 1) := by decide +kernel
theorem dX11_ends_70 : decode cX11_ends 70 = .ok (.iadd, 1) := by decide +kernel
theorem dX11_ends_71 : decode cX11_ends 71 = .ok (.putfield 62, 3) := by decide +kernel
theorem dX11_ends_74 : decode cX11_ends 74 = .ok (.aload_n 0, 1) := by decide +kernel
theorem dX11_ends_75 : decode cX11_ends 75 = .ok (.dup, 1) := by decide +kernel
theorem dX11_ends_76 : decode cX11_ends 76 = .ok (.getfield 108, 3) := by decide +kernel
theorem dX11_ends_79 : decode cX11_ends 79 = .ok (.iconst 1, 1) := by decide +kernel
theorem dX11_ends_80 : decode cX11_ends 80 = .ok (.isub, 1) := by decide +kernel
theorem dX11_ends_81 : decode cX11_ends 81 = .ok (.putfield 108, 3) := by decide +kernel
theorem dX11_ends_84 : decode cX11_ends 84 = .ok (.return_, 1) := by decide +kernel
theorem dX11_score_0 : decode cX11_score 0 = .ok (.aload_n 0, 1) := by decide +kernel
theorem dX11_score_1 : decode cX11_score 1 = .ok (.iconst 0, 1) := by decide +kernel
theorem dX11_score_2 : decode cX11_score 2 = .ok (.putfield 62, 3) := by decide +kernel
theorem dX11_score_5 : decode cX11_score 5 = .ok (.aload_n 0, 1) := by decide +kernel
theorem dX11_score_6 : decode cX11_score 6 = .ok (.aload_n 0, 1) := by decide +kernel
theorem dX11_score_7 : decode cX11_score 7 = .ok (.getfield 52, 3) := by decide +kernel
theorem dX11_score_10 : decode cX11_score 10 = .ok (.putfield 65, 3) := by decide +kernel
theorem dX11_score_13 : decode cX11_score 13 = .ok (.aload_n 0, 1) := by decide +kernel
theorem dX11_score_14 : decode cX11_score 14 = .ok (.iconst 0, 1) := by decide +kernel
theorem dX11_score_15 : decode cX11_score 15 = .ok (.putfield 52, 3) := by decide +kernel
theorem dX11_score_18 : decode cX11_score 18 = .ok (.aload_n 0, 1) := by decide +kernel
theorem dX11_score_19 : decode cX11_score 19 = .ok (.iconst 0, 1) := by decide +kernel
theorem dX11_score_20 : decode cX11_score 20 = .ok (.putfield 56, 3) := by decide +kernel
theorem dX11_score_23 : decode cX11_score 23 = .ok (.aload_n 0, 1) := by decide +kernel
theorem dX11_score_24 : decode cX11_score 24 = .ok (.iconst (-1), 1) := by decide +kernel
theorem dX11_score_25 : decode cX11_score 25 = .ok (.putfield 59, 3) := by decide +kernel
theorem dX11_score_28 : decode cX11_score 28 = .ok (.aload_n 0, 1) := by decide +kernel
theorem dX11_score_29 : decode cX11_score 29 = .ok (.iconst 0, 1) := by decide +kernel
theorem dX11_score_30 : decode cX11_score 30 = .ok (.putfield 90, 3) := by decide +kernel
theorem dX11_score_33 : decode cX11_score 33 = .ok (.aload_n 0, 1) := by decide +kernel
theorem dX11_score_34 : decode cX11_score 34 = .ok (.iconst 0, 1) := by decide +kernel
theorem dX11_score_35 : decode cX11_score 35 = .ok (.putfield 93, 3) := by decide +kernel
theorem dX11_score_38 : decode cX11_score 38 = .ok (.aload_n 0, 1) := by decide +kernel
theorem dX11_score_39 : decode cX11_score 39 = .ok (.iconst 0, 1) := by decide +kernel
theorem dX11_score_40 : decode cX11_score 40 = .ok (.putfield 108, 3) := by decide +kernel
theorem dX11_score_43 : decode cX11_score 43 = .ok (.aload_n 0, 1) := by decide +kernel
theorem dX11_score_44 : decode cX11_score 44 = .ok (.iconst 4, 1) := by decide +kernel
theorem dX11_score_45 : decode cX11_score 45 = .ok (.putfield 87, 3) := by decide +kernel
theorem dX11_score_48 : decode cX11_score 48 = .ok (.iconst 0, 1) := by decide +kernel
theorem dX11_score_49 : decode cX11_score 49 = .ok (.istore_n 1, 1) := by decide +kernel
theorem dX11_score_50 : decode cX11_score 50 = .ok (.iload_n 1, 1) := by decide +kernel
theorem dX11_score_51 : decode cX11_score 51 = .ok (.sipush 1001, 3) := by decide +kernel
theorem dX11_score_54 : decode cX11_score 54 = .ok (.if_icmp .ge 16, 3) := by decide +kernel
theorem dX11_score_57 : decode cX11_score 57 = .ok (.aload_n 0, 1) := by decide +kernel
theorem dX11_score_58 : decode cX11_score 58 = .ok (.getfield 30, 3) := by decide +kernel
theorem dX11_score_61 : decode cX11_score 61 = .ok (.iload_n 1, 1) := by decide +kernel
theorem dX11_score_62 : decode cX11_score 62 = .ok (.iconst 0, 1) := by decide +kernel
theorem dX11_score_63 : decode cX11_score 63 = .ok (.iastore, 1) := by decide +kernel
theorem dX11_score_64 : decode cX11_score 64 = .ok (.iinc 1 1, 3) := by decide +kernel
theorem dX11_score_67 : decode cX11_score 67 = .ok (.goto (-17), 3) := by decide +kernel
theorem dX11_score_70 : decode cX11_score 70 = .ok (.aload_n 0, 1) := by decide +kernel
theorem dX11_score_71 : decode cX11_score 71 = .ok (.getfield 56, 3) := by decide +kernel
theorem dX11_score_74 : decode cX11_score 74 = .ok (.ifCond .ne 50, 3) := by decide +kernel
theorem dX11_score_77 : decode cX11_score 77 = .ok (.aload_n 0, 1) := by decide +kernel
theorem dX11_score_78 : decode cX11_score 78 = .ok (.invokevirtual 68, 3) := by decide +kernel
theorem dX11_score_81 : decode cX11_score 81 = .ok (.iconst (-1), 1) := by decide +kernel
theorem dX11_score_82 : decode cX11_score 82 = .ok (.if_icmp .eq 42, 3) := by decide +kernel
theorem dX11_score_85 : decode cX11_score 85 = .ok (.aload_n 0, 1) := by decide +kernel
theorem dX11_score_86 : decode cX11_score 86 = .ok (.invokevirtual 68, 3) := by decide +kernel
theorem dX11_score_89 : decode cX11_score 89 = .ok (.istore_n 1, 1) := by decide +kernel
theorem dX11_score_90 : decode cX11_score 90 = .ok (.iload_n 1, 1) := by decide +kernel
theorem dX11_score_91 : decode cX11_score 91 = .ok (.invokestatic 79, 3) := by decide +kernel
theorem dX11_score_94 : decode cX11_score 94 = .ok (.ifCond .eq 10, 3) := by decide +kernel
theorem dX11_score_97 : decode cX11_score 97 = .ok (.aload_n 0, 1) := by decide +kernel
theorem dX11_score_98 : decode cX11_score 98 = .ok (.invokevirtual 111, 3) := by decide +kernel
theorem dX11_score_101 : decode cX11_score 101 = .ok (.goto 20, 3) := by decide +kernel
theorem dX11_score_104 : decode cX11_score 104 = .ok (.iload_n 1, 1) := by decide +kernel
theorem dX11_score_105 : decode cX11_score 105 = .ok (.bipush 125, 2) := by decide +kernel
theorem dX11_score_107 : decode cX11_score 107 = .ok (.if_icmp .ne 10, 3) := by decide +kernel
theorem dX11_score_110 : decode cX11_score 110 = .ok (.aload_n 0, 1) := by decide +kernel
theorem dX11_score_111 : decode cX11_score 111 = .ok (.invokevirtual 114, 3) := by decide +kernel
theorem dX11_score_114 : decode cX11_score 114 = .ok (.goto 7, 3) := by decide +kernel
theorem dX11_score_117 : decode cX11_score 117 = .ok (.aload_n 0, 1) := by decide +kernel
theorem dX11_score_118 : decode cX11_score 118 = .ok (.invokevirtual 117, 3) := by decide +kernel
theorem dX11_score_121 : decode cX11_score 121 = .ok (.goto (-51), 3) := by decide +kernel
theorem dX11_score_124 : decode cX11_score 124 = .ok (.aload_n 0, 1) := by decide +kernel
theorem dX11_score_125 : decode cX11_score 125 = .ok (.getfield 56, 3) := by decide +kernel
theorem dX11_score_128 : decode cX11_score 128 = .ok (.ifCond .ne 19, 3) := by decide +kernel
theorem dX11_score_131 : decode cX11_score 131 = .ok (.aload_n 0, 1) := by decide +kernel
theorem dX11_score_132 : decode cX11_score 132 = .ok (.getfield 108, 3) := by decide +kernel
theorem dX11_score_135 : decode cX11_score 135 = .ok (.ifCond .le 12, 3) := by decide +kernel
theorem dX11_score_138 : decode cX11_score 138 = .ok (.aload_n 0, 1) := by decide +kernel
theorem dX11_score_139 : decode cX11_score 139 = .ok (.iconst 1, 1) := by decide +kernel
theorem dX11_score_140 : decode cX11_score 140 = .ok (.aload_n 0, 1) := by decide +kernel
theorem dX11_score_141 : decode cX11_score 141 = .ok (.getfield 65, 3) := by decide +kernel
theorem dX11_score_144 : decode cX11_score 144 = .ok (.invokevirtual 72, 3) := by decide +kernel
theorem dX11_score_147 : decode cX11_score 147 = .ok (.aload_n 0, 1) := by decide +kernel
theorem dX11_score_148 : decode cX11_score 148 = .ok (.getfield 7, 3) := by decide +kernel
theorem dX11_score_151 : decode cX11_score 151 = .ok (.sipush 231, 3) := by decide +kernel
theorem dX11_score_154 : decode cX11_score 154 = .ok (.aload_n 0, 1) := by decide +kernel
theorem dX11_score_155 : decode cX11_score 155 = .ok (.getfield 56, 3) := by decide +kernel
theorem dX11_score_158 : decode cX11_score 158 = .ok (.iastore, 1) := by decide +kernel
theorem dX11_score_159 : decode cX11_score 159 = .ok (.aload_n 0, 1) := by decide +kernel
theorem dX11_score_160 : decode cX11_score 160 = .ok (.getfield 7, 3) := by decide +kernel
theorem dX11_score_163 : decode cX11_score 163 = .ok (.sipush 232, 3) := by decide +kernel
theorem dX11_score_166 : decode cX11_score 166 = .ok (.aload_n 0, 1) := by decide +kernel
theorem dX11_score_167 : decode cX11_score 167 = .ok (.getfield 59, 3) := by decide +kernel
theorem dX11_score_170 : decode cX11_score 170 = .ok (.iastore, 1) := by decide +kernel
theorem dX11_score_171 : decode cX11_score 171 = .ok (.aload_n 0, 1) := by decide +kernel
theorem dX11_score_172 : decode cX11_score 172 = .ok (.getfield 56, 3) := by decide +kernel
theorem dX11_score_175 : decode cX11_score 175 = .ok (.ifCond .eq 5, 3) := by decide +kernel
theorem dX11_score_178 : decode cX11_score 178 = .ok (.iconst (-1), 1) := by decide +kernel
theorem dX11_score_179 : decode cX11_score 179 = .ok (.ireturn, 1) := by decide +kernel
theorem dX11_score_180 : decode cX11_score 180 = .ok (.aload_n 0, 1) := by decide +kernel
theorem dX11_score_181 : decode cX11_score 181 = .ok (.getfield 7, 3) := by decide +kernel
theorem dX11_score_184 : decode cX11_score 184 = .ok (.iconst 0, 1) := by decide +kernel
theorem dX11_score_185 : decode cX11_score 185 = .ok (.aload_n 0, 1) := by decide +kernel
theorem dX11_score_186 : decode cX11_score 186 = .ok (.getfield 90, 3) := by decide +kernel
theorem dX11_score_189 : decode cX11_score 189 = .ok (.iastore, 1) := by decide +kernel
theorem dX11_score_190 : decode cX11_score 190 = .ok (.aload_n 0, 1) := by decide +kernel
theorem dX11_score_191 : decode cX11_score 191 = .ok (.getfield 7, 3) := by decide +kernel
theorem dX11_score_194 : decode cX11_score 194 = .ok (.iconst 1, 1) := by decide +kernel
theorem dX11_score_195 : decode cX11_score 195 = .ok (.aload_n 0, 1) := by decide +kernel
theorem dX11_score_196 : decode cX11_score 196 = .ok (.getfield 93, 3) := by decide +kernel
theorem dX11_score_199 : decode cX11_score 199 = .ok (.iastore, 1) := by decide +kernel
theorem dX11_score_200 : decode cX11_score 200 = .ok (.iconst 0, 1) := by decide +kernel
theorem dX11_score_201 : decode cX11_score 201 = .ok (.istore_n 1, 1) := by decide +kernel
theorem dX11_score_202 : decode cX11_score 202 = .ok (.iload_n 1, 1) := by decide +kernel
theorem dX11_score_203 : decode cX11_score 203 = .ok (.bipush 100, 2) := by decide +kernel
theorem dX11_score_205 : decode cX11_score 205 = .ok (.if_icmp .ge 62, 3) := by decide +kernel
theorem dX11_score_208 : decode cX11_score 208 = .ok (.aload_n 0, 1) := by decide +kernel
theorem dX11_score_209 : decode cX11_score 209 = .ok (.getfield 7, 3) := by decide +kernel
theorem dX11_score_212 : decode cX11_score 212 = .ok (.iconst 2, 1) := by decide +kernel
theorem dX11_score_213 : decode cX11_score 213 = .ok (.iload_n 1, 1) := by decide +kernel
theorem dX11_score_214 : decode cX11_score 214 = .ok (.iadd, 1) := by decide +kernel
theorem dX11_score_215 : decode cX11_score 215 = .ok (.iload_n 1, 1) := by decide +kernel
theorem dX11_score_216 : decode cX11_score 216 = .ok (.aload_n 0, 1) := by decide +kernel
theorem dX11_score_217 : decode cX11_score 217 = .ok (.getfield 90, 3) := by decide +kernel
theorem dX11_score_220 : decode cX11_score 220 = .ok (.if_icmp .ge 12, 3) := by decide +kernel
theorem dX11_score_223 : decode cX11_score 223 = .ok (.aload_n 0, 1) := by decide +kernel
theorem dX11_score_224 : decode cX11_score 224 = .ok (.getfield 24, 3) := by decide +kernel
theorem dX11_score_227 : decode cX11_score 227 = .ok (.iload_n 1, 1) := by decide +kernel
theorem dX11_score_228 : decode cX11_score 228 = .ok (.iaload, 1) := by decide +kernel
theorem dX11_score_229 : decode cX11_score 229 = .ok (.goto 4, 3) := by decide +kernel
theorem dX11_score_232 : decode cX11_score 232 = .ok (.iconst 0, 1) := by decide +kernel
theorem dX11_score_233 : decode cX11_score 233 = .ok (.iastore, 1) := by decide +kernel
theorem dX11_score_234 : decode cX11_score 234 = .ok (.aload_n 0, 1) := by decide +kernel
theorem dX11_score_235 : decode cX11_score 235 = .ok (.getfield 7, 3) := by decide +kernel
theorem dX11_score_238 : decode cX11_score 238 = .ok (.bipush 102, 2) := by decide +kernel
theorem dX11_score_240 : decode cX11_score 240 = .ok (.iload_n 1, 1) := by decide +kernel
theorem dX11_score_241 : decode cX11_score 241 = .ok (.iadd, 1) := by decide +kernel
theorem dX11_score_242 : decode cX11_score 242 = .ok (.iload_n 1, 1) := by decide +kernel
theorem dX11_score_243 : decode cX11_score 243 = .ok (.aload_n 0, 1) := by decide +kernel
theorem dX11_score_244 : decode cX11_score 244 = .ok (.getfield 90, 3) := by decide +kernel
theorem dX11_score_247 : decode cX11_score 247 = .ok (.if_icmp .ge 12, 3) := by decide +kernel
theorem dX11_score_250 : decode cX11_score 250 = .ok (.aload_n 0, 1) := by decide +kernel
theorem dX11_score_251 : decode cX11_score 251 = .ok (.getfield 27, 3) := by decide +kernel
theorem dX11_score_254 : decode cX11_score 254 = .ok (.iload_n 1, 1) := by decide +kernel
theorem dX11_score_255 : decode cX11_score 255 = .ok (.iaload, 1) := by decide +kernel
theorem dX11_score_256 : decode cX11_score 256 = .ok (.goto 4, 3) := by decide +kernel
theorem dX11_score_259 : decode cX11_score 259 = .ok (.iconst 0, 1) := by decide +kernel
theorem dX11_score_260 : decode cX11_score 260 = .ok (.iastore, 1) := by decide +kernel
theorem dX11_score_261 : decode cX11_score 261 = .ok (.iinc 1 1, 3) := by decide +kernel
theorem dX11_score_264 : decode cX11_score 264 = .ok (.goto (-62), 3) := by decide +kernel
theorem dX11_score_267 : decode cX11_score 267 = .ok (.aload_n 0, 1) := by decide +kernel
theorem dX11_score_268 : decode cX11_score 268 = .ok (.getfield 90, 3) := by decide +kernel
theorem dX11_score_271 : decode cX11_score 271 = .ok (.ireturn, 1) := by decide +kernel
theorem dX11_fault_0 : decode cX11_fault 0 = .ok (.iload_n 1, 1) := by decide +kernel
theorem dX11_fault_1 : decode cX11_fault 1 = .ok (.ifCond .ne 14, 3) := by decide +kernel
theorem dX11_fault_4 : decode cX11_fault 4 = .ok (.aload_n 0, 1) := by decide +kernel
theorem dX11_fault_5 : decode cX11_fault 5 = .ok (.getfield 7, 3) := by decide +kernel
theorem dX11_fault_8 : decode cX11_fault 8 = .ok (.sipush 231, 3) := by decide +kernel
theorem dX11_fault_11 : decode cX11_fault 11 = .ok (.iaload, 1) := by decide +kernel
theorem dX11_fault_12 : decode cX11_fault 12 = .ok (.goto 20, 3) := by decide +kernel
theorem dX11_fault_15 : decode cX11_fault 15 = .ok (.iload_n 1, 1) := by decide +kernel
theorem dX11_fault_16 : decode cX11_fault 16 = .ok (.iconst 1, 1) := by decide +kernel
theorem dX11_fault_17 : decode cX11_fault 17 = .ok (.if_icmp .ne 14, 3) := by decide +kernel
theorem dX11_fault_20 : decode cX11_fault 20 = .ok (.aload_n 0, 1) := by decide +kernel
theorem dX11_fault_21 : decode cX11_fault 21 = .ok (.getfield 7, 3) := by decide +kernel
theorem dX11_fault_24 : decode cX11_fault 24 = .ok (.sipush 232, 3) := by decide +kernel
theorem dX11_fault_27 : decode cX11_fault 27 = .ok (.iaload, 1) := by decide +kernel
theorem dX11_fault_28 : decode cX11_fault 28 = .ok (.goto 4, 3) := by decide +kernel
theorem dX11_fault_31 : decode cX11_fault 31 = .ok (.iconst (-1), 1) := by decide +kernel
theorem dX11_fault_32 : decode cX11_fault 32 = .ok (.ireturn, 1) := by decide +kernel
theorem dX11_strike_0 : decode cX11_strike 0 = .ok (.iload_n 1, 1) := by decide +kernel
theorem dX11_strike_1 : decode cX11_strike 1 = .ok (.ifCond .lt 13, 3) := by decide +kernel
theorem dX11_strike_4 : decode cX11_strike 4 = .ok (.iload_n 1, 1) := by decide +kernel
theorem dX11_strike_5 : decode cX11_strike 5 = .ok (.aload_n 0, 1) := by decide +kernel
theorem dX11_strike_6 : decode cX11_strike 6 = .ok (.getfield 7, 3) := by decide +kernel
theorem dX11_strike_9 : decode cX11_strike 9 = .ok (.iconst 0, 1) := by decide +kernel
theorem dX11_strike_10 : decode cX11_strike 10 = .ok (.iaload, 1) := by decide +kernel
theorem dX11_strike_11 : decode cX11_strike 11 = .ok (.if_icmp .lt 5, 3) := by decide +kernel
theorem dX11_strike_14 : decode cX11_strike 14 = .ok (.iconst (-1), 1) := by decide +kernel
theorem dX11_strike_15 : decode cX11_strike 15 = .ok (.ireturn, 1) := by decide +kernel
theorem dX11_strike_16 : decode cX11_strike 16 = .ok (.iload_n 2, 1) := by decide +kernel
theorem dX11_strike_17 : decode cX11_strike 17 = .ok (.ifCond .ne 14, 3) := by decide +kernel
theorem dX11_strike_20 : decode cX11_strike 20 = .ok (.aload_n 0, 1) := by decide +kernel
theorem dX11_strike_21 : decode cX11_strike 21 = .ok (.getfield 7, 3) := by decide +kernel
theorem dX11_strike_24 : decode cX11_strike 24 = .ok (.iconst 2, 1) := by decide +kernel
theorem dX11_strike_25 : decode cX11_strike 25 = .ok (.iload_n 1, 1) := by decide +kernel
theorem dX11_strike_26 : decode cX11_strike 26 = .ok (.iadd, 1) := by decide +kernel
theorem dX11_strike_27 : decode cX11_strike 27 = .ok (.iaload, 1) := by decide +kernel
theorem dX11_strike_28 : decode cX11_strike 28 = .ok (.goto 21, 3) := by decide +kernel
theorem dX11_strike_31 : decode cX11_strike 31 = .ok (.iload_n 2, 1) := by decide +kernel
theorem dX11_strike_32 : decode cX11_strike 32 = .ok (.iconst 1, 1) := by decide +kernel
theorem dX11_strike_33 : decode cX11_strike 33 = .ok (.if_icmp .ne 15, 3) := by decide +kernel
theorem dX11_strike_36 : decode cX11_strike 36 = .ok (.aload_n 0, 1) := by decide +kernel
theorem dX11_strike_37 : decode cX11_strike 37 = .ok (.getfield 7, 3) := by decide +kernel
theorem dX11_strike_40 : decode cX11_strike 40 = .ok (.bipush 102, 2) := by decide +kernel
theorem dX11_strike_42 : decode cX11_strike 42 = .ok (.iload_n 1, 1) := by decide +kernel
theorem dX11_strike_43 : decode cX11_strike 43 = .ok (.iadd, 1) := by decide +kernel
theorem dX11_strike_44 : decode cX11_strike 44 = .ok (.iaload, 1) := by decide +kernel
theorem dX11_strike_45 : decode cX11_strike 45 = .ok (.goto 4, 3) := by decide +kernel
theorem dX11_strike_48 : decode cX11_strike 48 = .ok (.iconst (-1), 1) := by decide +kernel
theorem dX11_strike_49 : decode cX11_strike 49 = .ok (.ireturn, 1) := by decide +kernel
theorem dX11_place_0 : decode cX11_place 0 = .ok (.iload_n 1, 1) := by decide +kernel
theorem dX11_place_1 : decode cX11_place 1 = .ok (.bipush 101, 2) := by decide +kernel
theorem dX11_place_3 : decode cX11_place 3 = .ok (.imul, 1) := by decide +kernel
theorem dX11_place_4 : decode cX11_place 4 = .ok (.iload_n 2, 1) := by decide +kernel
theorem dX11_place_5 : decode cX11_place 5 = .ok (.iadd, 1) := by decide +kernel
theorem dX11_place_6 : decode cX11_place 6 = .ok (.bipush 101, 2) := by decide +kernel
theorem dX11_place_8 : decode cX11_place 8 = .ok (.imul, 1) := by decide +kernel
theorem dX11_place_9 : decode cX11_place 9 = .ok (.iload_n 3, 1) := by decide +kernel
theorem dX11_place_10 : decode cX11_place 10 = .ok (.iadd, 1) := by decide +kernel
theorem dX11_place_11 : decode cX11_place 11 = .ok (.ireturn, 1) := by decide +kernel
theorem dX11_moves_0 : decode cX11_moves 0 = .ok (.iload_n 1, 1) := by decide +kernel
theorem dX11_moves_1 : decode cX11_moves 1 = .ok (.ifCond .ne 5, 3) := by decide +kernel
theorem dX11_moves_4 : decode cX11_moves 4 = .ok (.iconst 0, 1) := by decide +kernel
theorem dX11_moves_5 : decode cX11_moves 5 = .ok (.ireturn, 1) := by decide +kernel
theorem dX11_moves_6 : decode cX11_moves 6 = .ok (.aload_n 0, 1) := by decide +kernel
theorem dX11_moves_7 : decode cX11_moves 7 = .ok (.getfield 7, 3) := by decide +kernel
theorem dX11_moves_10 : decode cX11_moves 10 = .ok (.iconst 2, 1) := by decide +kernel
theorem dX11_moves_11 : decode cX11_moves 11 = .ok (.iload_n 2, 1) := by decide +kernel
theorem dX11_moves_12 : decode cX11_moves 12 = .ok (.iadd, 1) := by decide +kernel
theorem dX11_moves_13 : decode cX11_moves 13 = .ok (.iaload, 1) := by decide +kernel
theorem dX11_moves_14 : decode cX11_moves 14 = .ok (.aload_n 0, 1) := by decide +kernel
theorem dX11_moves_15 : decode cX11_moves 15 = .ok (.getfield 7, 3) := by decide +kernel
theorem dX11_moves_18 : decode cX11_moves 18 = .ok (.iconst 2, 1) := by decide +kernel
theorem dX11_moves_19 : decode cX11_moves 19 = .ok (.iload_n 1, 1) := by decide +kernel
theorem dX11_moves_20 : decode cX11_moves 20 = .ok (.iadd, 1) := by decide +kernel
theorem dX11_moves_21 : decode cX11_moves 21 = .ok (.iconst 1, 1) := by decide +kernel
theorem dX11_moves_22 : decode cX11_moves 22 = .ok (.isub, 1) := by decide +kernel
theorem dX11_moves_23 : decode cX11_moves 23 = .ok (.iaload, 1) := by decide +kernel
theorem dX11_moves_24 : decode cX11_moves 24 = .ok (.isub, 1) := by decide +kernel
theorem dX11_moves_25 : decode cX11_moves 25 = .ok (.istore 4, 2) := by decide +kernel
theorem dX11_moves_27 : decode cX11_moves 27 = .ok (.aload_n 0, 1) := by decide +kernel
theorem dX11_moves_28 : decode cX11_moves 28 = .ok (.getfield 7, 3) := by decide +kernel
theorem dX11_moves_31 : decode cX11_moves 31 = .ok (.bipush 102, 2) := by decide +kernel
theorem dX11_moves_33 : decode cX11_moves 33 = .ok (.iload_n 2, 1) := by decide +kernel
theorem dX11_moves_34 : decode cX11_moves 34 = .ok (.iadd, 1) := by decide +kernel
theorem dX11_moves_35 : decode cX11_moves 35 = .ok (.iaload, 1) := by decide +kernel
theorem dX11_moves_36 : decode cX11_moves 36 = .ok (.aload_n 0, 1) := by decide +kernel
theorem dX11_moves_37 : decode cX11_moves 37 = .ok (.getfield 7, 3) := by decide +kernel
theorem dX11_moves_40 : decode cX11_moves 40 = .ok (.bipush 102, 2) := by decide +kernel
theorem dX11_moves_42 : decode cX11_moves 42 = .ok (.iload_n 1, 1) := by decide +kernel
theorem dX11_moves_43 : decode cX11_moves 43 = .ok (.iadd, 1) := by decide +kernel
theorem dX11_moves_44 : decode cX11_moves 44 = .ok (.iconst 1, 1) := by decide +kernel
theorem dX11_moves_45 : decode cX11_moves 45 = .ok (.isub, 1) := by decide +kernel
theorem dX11_moves_46 : decode cX11_moves 46 = .ok (.iaload, 1) := by decide +kernel
theorem dX11_moves_47 : decode cX11_moves 47 = .ok (.isub, 1) := by decide +kernel
theorem dX11_moves_48 : decode cX11_moves 48 = .ok (.istore 5, 2) := by decide +kernel
theorem dX11_moves_50 : decode cX11_moves 50 = .ok (.iload 5, 2) := by decide +kernel
theorem dX11_moves_52 : decode cX11_moves 52 = .ok (.ifCond .ge 8, 3) := by decide +kernel
theorem dX11_moves_55 : decode cX11_moves 55 = .ok (.iload 5, 2) := by decide +kernel
theorem dX11_moves_57 : decode cX11_moves 57 = .ok (.ineg, 1) := by decide +kernel
theorem dX11_moves_58 : decode cX11_moves 58 = .ok (.istore 5, 2) := by decide +kernel
theorem dX11_moves_60 : decode cX11_moves 60 = .ok (.iload 4, 2) := by decide +kernel
theorem dX11_moves_62 : decode cX11_moves 62 = .ok (.iconst 1, 1) := by decide +kernel
theorem dX11_moves_63 : decode cX11_moves 63 = .ok (.if_icmp .lt 12, 3) := by decide +kernel
theorem dX11_moves_66 : decode cX11_moves 66 = .ok (.iload 5, 2) := by decide +kernel
theorem dX11_moves_68 : decode cX11_moves 68 = .ok (.iload_n 3, 1) := by decide +kernel
theorem dX11_moves_69 : decode cX11_moves 69 = .ok (.iload 4, 2) := by decide +kernel
theorem dX11_moves_71 : decode cX11_moves 71 = .ok (.imul, 1) := by decide +kernel
theorem dX11_moves_72 : decode cX11_moves 72 = .ok (.if_icmp .le 8, 3) := by decide +kernel
theorem dX11_moves_75 : decode cX11_moves 75 = .ok (.ldc 120, 2) := by decide +kernel
theorem dX11_moves_77 : decode cX11_moves 77 = .ok (.goto 5, 3) := by decide +kernel
theorem dX11_moves_80 : decode cX11_moves 80 = .ok (.iload 5, 2) := by decide +kernel
theorem dX11_moves_82 : decode cX11_moves 82 = .ok (.ireturn, 1) := by decide +kernel
theorem dX11_isCrossed_0 : decode cX11_isCrossed 0 = .ok (.iload_n 1, 1) := by decide +kernel
theorem dX11_isCrossed_1 : decode cX11_isCrossed 1 = .ok (.ifCond .le 59, 3) := by decide +kernel
theorem dX11_isCrossed_4 : decode cX11_isCrossed 4 = .ok (.iload_n 2, 1) := by decide +kernel
theorem dX11_isCrossed_5 : decode cX11_isCrossed 5 = .ok (.ifCond .le 55, 3) := by decide +kernel
theorem dX11_isCrossed_8 : decode cX11_isCrossed 8 = .ok (.aload_n 0, 1) := by decide +kernel
theorem dX11_isCrossed_9 : decode cX11_isCrossed 9 = .ok (.getfield 7, 3) := by decide +kernel
theorem dX11_isCrossed_12 : decode cX11_isCrossed 12 = .ok (.iconst 2, 1) := by decide +kernel
theorem dX11_isCrossed_13 : decode cX11_isCrossed 13 = .ok (.iload_n 1, 1) := by decide +kernel
theorem dX11_isCrossed_14 : decode cX11_isCrossed 14 = .ok (.iadd, 1) := by decide +kernel
theorem dX11_isCrossed_15 : decode cX11_isCrossed 15 = .ok (.iconst 1, 1) := by decide +kernel
theorem dX11_isCrossed_16 : decode cX11_isCrossed 16 = .ok (.isub, 1) := by decide +kernel
theorem dX11_isCrossed_17 : decode cX11_isCrossed 17 = .ok (.iaload, 1) := by decide +kernel
theorem dX11_isCrossed_18 : decode cX11_isCrossed 18 = .ok (.aload_n 0, 1) := by decide +kernel
theorem dX11_isCrossed_19 : decode cX11_isCrossed 19 = .ok (.getfield 7, 3) := by decide +kernel
theorem dX11_isCrossed_22 : decode cX11_isCrossed 22 = .ok (.iconst 2, 1) := by decide +kernel
theorem dX11_isCrossed_23 : decode cX11_isCrossed 23 = .ok (.iload_n 2, 1) := by decide +kernel
theorem dX11_isCrossed_24 : decode cX11_isCrossed 24 = .ok (.iadd, 1) := by decide +kernel
theorem dX11_isCrossed_25 : decode cX11_isCrossed 25 = .ok (.iconst 1, 1) := by decide +kernel
theorem dX11_isCrossed_26 : decode cX11_isCrossed 26 = .ok (.isub, 1) := by decide +kernel
theorem dX11_isCrossed_27 : decode cX11_isCrossed 27 = .ok (.iaload, 1) := by decide +kernel
theorem dX11_isCrossed_28 : decode cX11_isCrossed 28 = .ok (.if_icmp .ne 32, 3) := by decide +kernel
theorem dX11_isCrossed_31 : decode cX11_isCrossed 31 = .ok (.aload_n 0, 1) := by decide +kernel
theorem dX11_isCrossed_32 : decode cX11_isCrossed 32 = .ok (.getfield 7, 3) := by decide +kernel
theorem dX11_isCrossed_35 : decode cX11_isCrossed 35 = .ok (.bipush 102, 2) := by decide +kernel
theorem dX11_isCrossed_37 : decode cX11_isCrossed 37 = .ok (.iload_n 1, 1) := by decide +kernel
theorem dX11_isCrossed_38 : decode cX11_isCrossed 38 = .ok (.iadd, 1) := by decide +kernel
theorem dX11_isCrossed_39 : decode cX11_isCrossed 39 = .ok (.iconst 1, 1) := by decide +kernel
theorem dX11_isCrossed_40 : decode cX11_isCrossed 40 = .ok (.isub, 1) := by decide +kernel
theorem dX11_isCrossed_41 : decode cX11_isCrossed 41 = .ok (.iaload, 1) := by decide +kernel
theorem dX11_isCrossed_42 : decode cX11_isCrossed 42 = .ok (.aload_n 0, 1) := by decide +kernel
theorem dX11_isCrossed_43 : decode cX11_isCrossed 43 = .ok (.getfield 7, 3) := by decide +kernel
theorem dX11_isCrossed_46 : decode cX11_isCrossed 46 = .ok (.bipush 102, 2) := by decide +kernel
theorem dX11_isCrossed_48 : decode cX11_isCrossed 48 = .ok (.iload_n 2, 1) := by decide +kernel
theorem dX11_isCrossed_49 : decode cX11_isCrossed 49 = .ok (.iadd, 1) := by decide +kernel
theorem dX11_isCrossed_50 : decode cX11_isCrossed 50 = .ok (.iconst 1, 1) := by decide +kernel
theorem dX11_isCrossed_51 : decode cX11_isCrossed 51 = .ok (.isub, 1) := by decide +kernel
theorem dX11_isCrossed_52 : decode cX11_isCrossed 52 = .ok (.iaload, 1) := by decide +kernel
theorem dX11_isCrossed_53 : decode cX11_isCrossed 53 = .ok (.if_icmp .lt 7, 3) := by decide +kernel
theorem dX11_isCrossed_56 : decode cX11_isCrossed 56 = .ok (.iconst 1, 1) := by decide +kernel
theorem dX11_isCrossed_57 : decode cX11_isCrossed 57 = .ok (.goto 4, 3) := by decide +kernel
theorem dX11_isCrossed_60 : decode cX11_isCrossed 60 = .ok (.iconst 0, 1) := by decide +kernel
theorem dX11_isCrossed_61 : decode cX11_isCrossed 61 = .ok (.ireturn, 1) := by decide +kernel
theorem dX11_costOf_0 : decode cX11_costOf 0 = .ok (.iload 4, 2) := by decide +kernel
theorem dX11_costOf_2 : decode cX11_costOf 2 = .ok (.iconst 2, 1) := by decide +kernel
theorem dX11_costOf_3 : decode cX11_costOf 3 = .ok (.if_icmp .ne 6, 3) := by decide +kernel
theorem dX11_costOf_6 : decode cX11_costOf 6 = .ok (.iload 6, 2) := by decide +kernel
theorem dX11_costOf_8 : decode cX11_costOf 8 = .ok (.ireturn, 1) := by decide +kernel
theorem dX11_costOf_9 : decode cX11_costOf 9 = .ok (.iload 4, 2) := by decide +kernel
theorem dX11_costOf_11 : decode cX11_costOf 11 = .ok (.ifCond .ne 28, 3) := by decide +kernel
theorem dX11_costOf_14 : decode cX11_costOf 14 = .ok (.aload_n 0, 1) := by decide +kernel
theorem dX11_costOf_15 : decode cX11_costOf 15 = .ok (.iload_n 1, 1) := by decide +kernel
theorem dX11_costOf_16 : decode cX11_costOf 16 = .ok (.iconst 1, 1) := by decide +kernel
theorem dX11_costOf_17 : decode cX11_costOf 17 = .ok (.iadd, 1) := by decide +kernel
theorem dX11_costOf_18 : decode cX11_costOf 18 = .ok (.iload_n 3, 1) := by decide +kernel
theorem dX11_costOf_19 : decode cX11_costOf 19 = .ok (.invokevirtual 121, 3) := by decide +kernel
theorem dX11_costOf_22 : decode cX11_costOf 22 = .ok (.ifCond .eq 8, 3) := by decide +kernel
theorem dX11_costOf_25 : decode cX11_costOf 25 = .ok (.ldc 120, 2) := by decide +kernel
theorem dX11_costOf_27 : decode cX11_costOf 27 = .ok (.goto 11, 3) := by decide +kernel
theorem dX11_costOf_30 : decode cX11_costOf 30 = .ok (.aload_n 0, 1) := by decide +kernel
theorem dX11_costOf_31 : decode cX11_costOf 31 = .ok (.iload_n 2, 1) := by decide +kernel
theorem dX11_costOf_32 : decode cX11_costOf 32 = .ok (.iload_n 1, 1) := by decide +kernel
theorem dX11_costOf_33 : decode cX11_costOf 33 = .ok (.iload 5, 2) := by decide +kernel
theorem dX11_costOf_35 : decode cX11_costOf 35 = .ok (.invokevirtual 125, 3) := by decide +kernel
theorem dX11_costOf_38 : decode cX11_costOf 38 = .ok (.ireturn, 1) := by decide +kernel
theorem dX11_costOf_39 : decode cX11_costOf 39 = .ok (.aload_n 0, 1) := by decide +kernel
theorem dX11_costOf_40 : decode cX11_costOf 40 = .ok (.iload_n 2, 1) := by decide +kernel
theorem dX11_costOf_41 : decode cX11_costOf 41 = .ok (.iload_n 1, 1) := by decide +kernel
theorem dX11_costOf_42 : decode cX11_costOf 42 = .ok (.iconst 1, 1) := by decide +kernel
theorem dX11_costOf_43 : decode cX11_costOf 43 = .ok (.iadd, 1) := by decide +kernel
theorem dX11_costOf_44 : decode cX11_costOf 44 = .ok (.invokevirtual 121, 3) := by decide +kernel
theorem dX11_costOf_47 : decode cX11_costOf 47 = .ok (.ifCond .eq 8, 3) := by decide +kernel
theorem dX11_costOf_50 : decode cX11_costOf 50 = .ok (.ldc 120, 2) := by decide +kernel
theorem dX11_costOf_52 : decode cX11_costOf 52 = .ok (.goto 11, 3) := by decide +kernel
theorem dX11_costOf_55 : decode cX11_costOf 55 = .ok (.aload_n 0, 1) := by decide +kernel
theorem dX11_costOf_56 : decode cX11_costOf 56 = .ok (.iload_n 3, 1) := by decide +kernel
theorem dX11_costOf_57 : decode cX11_costOf 57 = .ok (.iload_n 1, 1) := by decide +kernel
theorem dX11_costOf_58 : decode cX11_costOf 58 = .ok (.iload 5, 2) := by decide +kernel
theorem dX11_costOf_60 : decode cX11_costOf 60 = .ok (.invokevirtual 125, 3) := by decide +kernel
theorem dX11_costOf_63 : decode cX11_costOf 63 = .ok (.ireturn, 1) := by decide +kernel
theorem dX11_behind_0 : decode cX11_behind 0 = .ok (.aload_n 0, 1) := by decide +kernel
theorem dX11_behind_1 : decode cX11_behind 1 = .ok (.getfield 43, 3) := by decide +kernel
theorem dX11_behind_4 : decode cX11_behind 4 = .ok (.aload_n 0, 1) := by decide +kernel
theorem dX11_behind_5 : decode cX11_behind 5 = .ok (.iload_n 1, 1) := by decide +kernel
theorem dX11_behind_6 : decode cX11_behind 6 = .ok (.iconst 1, 1) := by decide +kernel
theorem dX11_behind_7 : decode cX11_behind 7 = .ok (.iadd, 1) := by decide +kernel
theorem dX11_behind_8 : decode cX11_behind 8 = .ok (.iload 4, 2) := by decide +kernel
theorem dX11_behind_10 : decode cX11_behind 10 = .ok (.ifCond .ne 9, 3) := by decide +kernel
theorem dX11_behind_13 : decode cX11_behind 13 = .ok (.iload_n 1, 1) := by decide +kernel
theorem dX11_behind_14 : decode cX11_behind 14 = .ok (.iconst 1, 1) := by decide +kernel
theorem dX11_behind_15 : decode cX11_behind 15 = .ok (.iadd, 1) := by decide +kernel
theorem dX11_behind_16 : decode cX11_behind 16 = .ok (.goto 4, 3) := by decide +kernel
theorem dX11_behind_19 : decode cX11_behind 19 = .ok (.iload_n 2, 1) := by decide +kernel
theorem dX11_behind_20 : decode cX11_behind 20 = .ok (.iload 4, 2) := by decide +kernel
theorem dX11_behind_22 : decode cX11_behind 22 = .ok (.iconst 1, 1) := by decide +kernel
theorem dX11_behind_23 : decode cX11_behind 23 = .ok (.if_icmp .ne 9, 3) := by decide +kernel
theorem dX11_behind_26 : decode cX11_behind 26 = .ok (.iload_n 1, 1) := by decide +kernel
theorem dX11_behind_27 : decode cX11_behind 27 = .ok (.iconst 1, 1) := by decide +kernel
theorem dX11_behind_28 : decode cX11_behind 28 = .ok (.iadd, 1) := by decide +kernel
theorem dX11_behind_29 : decode cX11_behind 29 = .ok (.goto 4, 3) := by decide +kernel
theorem dX11_behind_32 : decode cX11_behind 32 = .ok (.iload_n 3, 1) := by decide +kernel
theorem dX11_behind_33 : decode cX11_behind 33 = .ok (.invokevirtual 129, 3) := by decide +kernel
theorem dX11_behind_36 : decode cX11_behind 36 = .ok (.iaload, 1) := by decide +kernel
theorem dX11_behind_37 : decode cX11_behind 37 = .ok (.ireturn, 1) := by decide +kernel
theorem dX11_weighs_0 : decode cX11_weighs 0 = .ok (.aload_n 0, 1) := by decide +kernel
theorem dX11_weighs_1 : decode cX11_weighs 1 = .ok (.getfield 7, 3) := by decide +kernel
theorem dX11_weighs_4 : decode cX11_weighs 4 = .ok (.iconst 0, 1) := by decide +kernel
theorem dX11_weighs_5 : decode cX11_weighs 5 = .ok (.iaload, 1) := by decide +kernel
theorem dX11_weighs_6 : decode cX11_weighs 6 = .ok (.istore_n 3, 1) := by decide +kernel
theorem dX11_weighs_7 : decode cX11_weighs 7 = .ok (.iconst 0, 1) := by decide +kernel
theorem dX11_weighs_8 : decode cX11_weighs 8 = .ok (.istore 4, 2) := by decide +kernel
theorem dX11_weighs_10 : decode cX11_weighs 10 = .ok (.iload 4, 2) := by decide +kernel
theorem dX11_weighs_12 : decode cX11_weighs 12 = .ok (.iload_n 3, 1) := by decide +kernel
theorem dX11_weighs_13 : decode cX11_weighs 13 = .ok (.if_icmp .gt 39, 3) := by decide +kernel
theorem dX11_weighs_16 : decode cX11_weighs 16 = .ok (.iconst 0, 1) := by decide +kernel
theorem dX11_weighs_17 : decode cX11_weighs 17 = .ok (.istore 5, 2) := by decide +kernel
theorem dX11_weighs_19 : decode cX11_weighs 19 = .ok (.iload 5, 2) := by decide +kernel
theorem dX11_weighs_21 : decode cX11_weighs 21 = .ok (.iload_n 3, 1) := by decide +kernel
theorem dX11_weighs_22 : decode cX11_weighs 22 = .ok (.if_icmp .gt 24, 3) := by decide +kernel
theorem dX11_weighs_25 : decode cX11_weighs 25 = .ok (.aload_n 0, 1) := by decide +kernel
theorem dX11_weighs_26 : decode cX11_weighs 26 = .ok (.getfield 43, 3) := by decide +kernel
theorem dX11_weighs_29 : decode cX11_weighs 29 = .ok (.aload_n 0, 1) := by decide +kernel
theorem dX11_weighs_30 : decode cX11_weighs 30 = .ok (.iload_n 3, 1) := by decide +kernel
theorem dX11_weighs_31 : decode cX11_weighs 31 = .ok (.iload 4, 2) := by decide +kernel
theorem dX11_weighs_33 : decode cX11_weighs 33 = .ok (.iload 5, 2) := by decide +kernel
theorem dX11_weighs_35 : decode cX11_weighs 35 = .ok (.invokevirtual 129, 3) := by decide +kernel
theorem dX11_weighs_38 : decode cX11_weighs 38 = .ok (.iconst 0, 1) := by decide +kernel
theorem dX11_weighs_39 : decode cX11_weighs 39 = .ok (.iastore, 1) := by decide +kernel
theorem dX11_weighs_40 : decode cX11_weighs 40 = .ok (.iinc 5 1, 3) := by decide +kernel
theorem dX11_weighs_43 : decode cX11_weighs 43 = .ok (.goto (-24), 3) := by decide +kernel
theorem dX11_weighs_46 : decode cX11_weighs 46 = .ok (.iinc 4 1, 3) := by decide +kernel
theorem dX11_weighs_49 : decode cX11_weighs 49 = .ok (.goto (-39), 3) := by decide +kernel
theorem dX11_weighs_52 : decode cX11_weighs 52 = .ok (.iload_n 3, 1) := by decide +kernel
theorem dX11_weighs_53 : decode cX11_weighs 53 = .ok (.iconst 1, 1) := by decide +kernel
theorem dX11_weighs_54 : decode cX11_weighs 54 = .ok (.isub, 1) := by decide +kernel
theorem dX11_weighs_55 : decode cX11_weighs 55 = .ok (.istore 4, 2) := by decide +kernel
theorem dX11_weighs_57 : decode cX11_weighs 57 = .ok (.iload 4, 2) := by decide +kernel
theorem dX11_weighs_59 : decode cX11_weighs 59 = .ok (.ifCond .lt 137, 3) := by decide +kernel
theorem dX11_weighs_62 : decode cX11_weighs 62 = .ok (.iconst 0, 1) := by decide +kernel
theorem dX11_weighs_63 : decode cX11_weighs 63 = .ok (.istore 5, 2) := by decide +kernel
theorem dX11_weighs_65 : decode cX11_weighs 65 = .ok (.iload 5, 2) := by decide +kernel
theorem dX11_weighs_67 : decode cX11_weighs 67 = .ok (.iload 4, 2) := by decide +kernel
theorem dX11_weighs_69 : decode cX11_weighs 69 = .ok (.if_icmp .gt 121, 3) := by decide +kernel
theorem dX11_weighs_72 : decode cX11_weighs 72 = .ok (.iconst 0, 1) := by decide +kernel
theorem dX11_weighs_73 : decode cX11_weighs 73 = .ok (.istore 6, 2) := by decide +kernel
theorem dX11_weighs_75 : decode cX11_weighs 75 = .ok (.iload 6, 2) := by decide +kernel
theorem dX11_weighs_77 : decode cX11_weighs 77 = .ok (.iload 4, 2) := by decide +kernel
theorem dX11_weighs_79 : decode cX11_weighs 79 = .ok (.if_icmp .gt 105, 3) := by decide +kernel
theorem dX11_weighs_82 : decode cX11_weighs 82 = .ok (.ldc 120, 2) := by decide +kernel
theorem dX11_weighs_84 : decode cX11_weighs 84 = .ok (.istore 7, 2) := by decide +kernel
theorem dX11_weighs_86 : decode cX11_weighs 86 = .ok (.iconst 0, 1) := by decide +kernel
theorem dX11_weighs_87 : decode cX11_weighs 87 = .ok (.istore 8, 2) := by decide +kernel
theorem dX11_weighs_89 : decode cX11_weighs 89 = .ok (.iload 8, 2) := by decide +kernel
theorem dX11_weighs_91 : decode cX11_weighs 91 = .ok (.iconst 3, 1) := by decide +kernel
theorem dX11_weighs_92 : decode cX11_weighs 92 = .ok (.if_icmp .ge 69, 3) := by decide +kernel
theorem dX11_weighs_95 : decode cX11_weighs 95 = .ok (.aload_n 0, 1) := by decide +kernel
theorem dX11_weighs_96 : decode cX11_weighs 96 = .ok (.iload 4, 2) := by decide +kernel
theorem dX11_weighs_98 : decode cX11_weighs 98 = .ok (.iload 5, 2) := by decide +kernel
theorem dX11_weighs_100 : decode cX11_weighs 100 = .ok (.iload 6, 2) := by decide +kernel
theorem dX11_weighs_102 : decode cX11_weighs 102 = .ok (.iload 8, 2) := by decide +kernel
theorem dX11_weighs_104 : decode cX11_weighs 104 = .ok (.iload_n 1, 1) := by decide +kernel
theorem dX11_weighs_105 : decode cX11_weighs 105 = .ok (.iload_n 2, 1) := by decide +kernel
theorem dX11_weighs_106 : decode cX11_weighs 106 = .ok (.invokevirtual 132, 3) := by decide +kernel
theorem dX11_weighs_109 : decode cX11_weighs 109 = .ok (.istore 9, 2) := by decide +kernel
theorem dX11_weighs_111 : decode cX11_weighs 111 = .ok (.iload 9, 2) := by decide +kernel
theorem dX11_weighs_113 : decode cX11_weighs 113 = .ok (.ldc 120, 2) := by decide +kernel
theorem dX11_weighs_115 : decode cX11_weighs 115 = .ok (.if_icmp .ge 40, 3) := by decide +kernel
theorem dX11_weighs_118 : decode cX11_weighs 118 = .ok (.iload 9, 2) := by decide +kernel
theorem dX11_weighs_120 : decode cX11_weighs 120 = .ok (.aload_n 0, 1) := by decide +kernel
theorem dX11_weighs_121 : decode cX11_weighs 121 = .ok (.iload 4, 2) := by decide +kernel
theorem dX11_weighs_123 : decode cX11_weighs 123 = .ok (.iload 5, 2) := by decide +kernel
theorem dX11_weighs_125 : decode cX11_weighs 125 = .ok (.iload 6, 2) := by decide +kernel
theorem dX11_weighs_127 : decode cX11_weighs 127 = .ok (.iload 8, 2) := by decide +kernel
theorem dX11_weighs_129 : decode cX11_weighs 129 = .ok (.invokevirtual 136, 3) := by decide +kernel
theorem dX11_weighs_132 : decode cX11_weighs 132 = .ok (.iadd, 1) := by decide +kernel
theorem dX11_weighs_133 : decode cX11_weighs 133 = .ok (.iload 7, 2) := by decide +kernel
theorem dX11_weighs_135 : decode cX11_weighs 135 = .ok (.if_icmp .ge 20, 3) := by decide +kernel
theorem dX11_weighs_138 : decode cX11_weighs 138 = .ok (.iload 9, 2) := by decide +kernel
theorem dX11_weighs_140 : decode cX11_weighs 140 = .ok (.aload_n 0, 1) := by decide +kernel
theorem dX11_weighs_141 : decode cX11_weighs 141 = .ok (.iload 4, 2) := by decide +kernel
theorem dX11_weighs_143 : decode cX11_weighs 143 = .ok (.iload 5, 2) := by decide +kernel
theorem dX11_weighs_145 : decode cX11_weighs 145 = .ok (.iload 6, 2) := by decide +kernel
theorem dX11_weighs_147 : decode cX11_weighs 147 = .ok (.iload 8, 2) := by decide +kernel
theorem dX11_weighs_149 : decode cX11_weighs 149 = .ok (.invokevirtual 136, 3) := by decide +kernel
theorem dX11_weighs_152 : decode cX11_weighs 152 = .ok (.iadd, 1) := by decide +kernel
theorem dX11_weighs_153 : decode cX11_weighs 153 = .ok (.istore 7, 2) := by decide +kernel
theorem dX11_weighs_155 : decode cX11_weighs 155 = .ok (.iinc 8 1, 3) := by decide +kernel
theorem dX11_weighs_158 : decode cX11_weighs 158 = .ok (.goto (-69), 3) := by decide +kernel
theorem dX11_weighs_161 : decode cX11_weighs 161 = .ok (.aload_n 0, 1) := by decide +kernel
theorem dX11_weighs_162 : decode cX11_weighs 162 = .ok (.getfield 43, 3) := by decide +kernel
theorem dX11_weighs_165 : decode cX11_weighs 165 = .ok (.aload_n 0, 1) := by decide +kernel
theorem dX11_weighs_166 : decode cX11_weighs 166 = .ok (.iload 4, 2) := by decide +kernel
theorem dX11_weighs_168 : decode cX11_weighs 168 = .ok (.iload 5, 2) := by decide +kernel
theorem dX11_weighs_170 : decode cX11_weighs 170 = .ok (.iload 6, 2) := by decide +kernel
theorem dX11_weighs_172 : decode cX11_weighs 172 = .ok (.invokevirtual 129, 3) := by decide +kernel
theorem dX11_weighs_175 : decode cX11_weighs 175 = .ok (.iload 7, 2) := by decide +kernel
theorem dX11_weighs_177 : decode cX11_weighs 177 = .ok (.iastore, 1) := by decide +kernel
theorem dX11_weighs_178 : decode cX11_weighs 178 = .ok (.iinc 6 1, 3) := by decide +kernel
theorem dX11_weighs_181 : decode cX11_weighs 181 = .ok (.goto (-106), 3) := by decide +kernel
theorem dX11_weighs_184 : decode cX11_weighs 184 = .ok (.iinc 5 1, 3) := by decide +kernel
theorem dX11_weighs_187 : decode cX11_weighs 187 = .ok (.goto (-122), 3) := by decide +kernel
theorem dX11_weighs_190 : decode cX11_weighs 190 = .ok (.iinc 4 (-1), 3) := by decide +kernel
theorem dX11_weighs_193 : decode cX11_weighs 193 = .ok (.goto (-136), 3) := by decide +kernel
theorem dX11_weighs_196 : decode cX11_weighs 196 = .ok (.aload_n 0, 1) := by decide +kernel
theorem dX11_weighs_197 : decode cX11_weighs 197 = .ok (.getfield 43, 3) := by decide +kernel
theorem dX11_weighs_200 : decode cX11_weighs 200 = .ok (.iconst 0, 1) := by decide +kernel
theorem dX11_weighs_201 : decode cX11_weighs 201 = .ok (.iaload, 1) := by decide +kernel
theorem dX11_weighs_202 : decode cX11_weighs 202 = .ok (.ireturn, 1) := by decide +kernel
theorem dX11_sets_0 : decode cX11_sets 0 = .ok (.aload_n 0, 1) := by decide +kernel
theorem dX11_sets_1 : decode cX11_sets 1 = .ok (.aload_n 0, 1) := by decide +kernel
theorem dX11_sets_2 : decode cX11_sets 2 = .ok (.getfield 7, 3) := by decide +kernel
theorem dX11_sets_5 : decode cX11_sets 5 = .ok (.sipush 202, 3) := by decide +kernel
theorem dX11_sets_8 : decode cX11_sets 8 = .ok (.iaload, 1) := by decide +kernel
theorem dX11_sets_9 : decode cX11_sets 9 = .ok (.aload_n 0, 1) := by decide +kernel
theorem dX11_sets_10 : decode cX11_sets 10 = .ok (.getfield 7, 3) := by decide +kernel
theorem dX11_sets_13 : decode cX11_sets 13 = .ok (.sipush 203, 3) := by decide +kernel
theorem dX11_sets_16 : decode cX11_sets 16 = .ok (.iaload, 1) := by decide +kernel
theorem dX11_sets_17 : decode cX11_sets 17 = .ok (.invokevirtual 140, 3) := by decide +kernel
theorem dX11_sets_20 : decode cX11_sets 20 = .ok (.istore_n 1, 1) := by decide +kernel
theorem dX11_sets_21 : decode cX11_sets 21 = .ok (.iconst 0, 1) := by decide +kernel
theorem dX11_sets_22 : decode cX11_sets 22 = .ok (.istore_n 2, 1) := by decide +kernel
theorem dX11_sets_23 : decode cX11_sets 23 = .ok (.iconst 0, 1) := by decide +kernel
theorem dX11_sets_24 : decode cX11_sets 24 = .ok (.istore_n 3, 1) := by decide +kernel
theorem dX11_sets_25 : decode cX11_sets 25 = .ok (.aload_n 0, 1) := by decide +kernel
theorem dX11_sets_26 : decode cX11_sets 26 = .ok (.getfield 49, 3) := by decide +kernel
theorem dX11_sets_29 : decode cX11_sets 29 = .ok (.iconst 0, 1) := by decide +kernel
theorem dX11_sets_30 : decode cX11_sets 30 = .ok (.iconst 0, 1) := by decide +kernel
theorem dX11_sets_31 : decode cX11_sets 31 = .ok (.iastore, 1) := by decide +kernel
theorem dX11_sets_32 : decode cX11_sets 32 = .ok (.aload_n 0, 1) := by decide +kernel
theorem dX11_sets_33 : decode cX11_sets 33 = .ok (.getfield 49, 3) := by decide +kernel
theorem dX11_sets_36 : decode cX11_sets 36 = .ok (.iconst 1, 1) := by decide +kernel
theorem dX11_sets_37 : decode cX11_sets 37 = .ok (.iconst 0, 1) := by decide +kernel
theorem dX11_sets_38 : decode cX11_sets 38 = .ok (.iastore, 1) := by decide +kernel
theorem dX11_sets_39 : decode cX11_sets 39 = .ok (.iconst 0, 1) := by decide +kernel
theorem dX11_sets_40 : decode cX11_sets 40 = .ok (.istore 4, 2) := by decide +kernel
theorem dX11_sets_42 : decode cX11_sets 42 = .ok (.iload 4, 2) := by decide +kernel
theorem dX11_sets_44 : decode cX11_sets 44 = .ok (.aload_n 0, 1) := by decide +kernel
theorem dX11_sets_45 : decode cX11_sets 45 = .ok (.getfield 7, 3) := by decide +kernel
theorem dX11_sets_48 : decode cX11_sets 48 = .ok (.iconst 0, 1) := by decide +kernel
theorem dX11_sets_49 : decode cX11_sets 49 = .ok (.iaload, 1) := by decide +kernel
theorem dX11_sets_50 : decode cX11_sets 50 = .ok (.if_icmp .ge 172, 3) := by decide +kernel
theorem dX11_sets_53 : decode cX11_sets 53 = .ok (.iconst 0, 1) := by decide +kernel
theorem dX11_sets_54 : decode cX11_sets 54 = .ok (.istore 5, 2) := by decide +kernel
theorem dX11_sets_56 : decode cX11_sets 56 = .ok (.aload_n 0, 1) := by decide +kernel
theorem dX11_sets_57 : decode cX11_sets 57 = .ok (.iload 4, 2) := by decide +kernel
theorem dX11_sets_59 : decode cX11_sets 59 = .ok (.iload_n 2, 1) := by decide +kernel
theorem dX11_sets_60 : decode cX11_sets 60 = .ok (.iload_n 3, 1) := by decide +kernel
theorem dX11_sets_61 : decode cX11_sets 61 = .ok (.iload 5, 2) := by decide +kernel
theorem dX11_sets_63 : decode cX11_sets 63 = .ok (.aload_n 0, 1) := by decide +kernel
theorem dX11_sets_64 : decode cX11_sets 64 = .ok (.getfield 7, 3) := by decide +kernel
theorem dX11_sets_67 : decode cX11_sets 67 = .ok (.sipush 202, 3) := by decide +kernel
theorem dX11_sets_70 : decode cX11_sets 70 = .ok (.iaload, 1) := by decide +kernel
theorem dX11_sets_71 : decode cX11_sets 71 = .ok (.aload_n 0, 1) := by decide +kernel
theorem dX11_sets_72 : decode cX11_sets 72 = .ok (.getfield 7, 3) := by decide +kernel
theorem dX11_sets_75 : decode cX11_sets 75 = .ok (.sipush 203, 3) := by decide +kernel
theorem dX11_sets_78 : decode cX11_sets 78 = .ok (.iaload, 1) := by decide +kernel
theorem dX11_sets_79 : decode cX11_sets 79 = .ok (.invokevirtual 132, 3) := by decide +kernel
theorem dX11_sets_82 : decode cX11_sets 82 = .ok (.ldc 120, 2) := by decide +kernel
theorem dX11_sets_84 : decode cX11_sets 84 = .ok (.if_icmp .ge 56, 3) := by decide +kernel
theorem dX11_sets_87 : decode cX11_sets 87 = .ok (.aload_n 0, 1) := by decide +kernel
theorem dX11_sets_88 : decode cX11_sets 88 = .ok (.iload 4, 2) := by decide +kernel
theorem dX11_sets_90 : decode cX11_sets 90 = .ok (.iload_n 2, 1) := by decide +kernel
theorem dX11_sets_91 : decode cX11_sets 91 = .ok (.iload_n 3, 1) := by decide +kernel
theorem dX11_sets_92 : decode cX11_sets 92 = .ok (.iload 5, 2) := by decide +kernel
theorem dX11_sets_94 : decode cX11_sets 94 = .ok (.aload_n 0, 1) := by decide +kernel
theorem dX11_sets_95 : decode cX11_sets 95 = .ok (.getfield 7, 3) := by decide +kernel
theorem dX11_sets_98 : decode cX11_sets 98 = .ok (.sipush 202, 3) := by decide +kernel
theorem dX11_sets_101 : decode cX11_sets 101 = .ok (.iaload, 1) := by decide +kernel
theorem dX11_sets_102 : decode cX11_sets 102 = .ok (.aload_n 0, 1) := by decide +kernel
theorem dX11_sets_103 : decode cX11_sets 103 = .ok (.getfield 7, 3) := by decide +kernel
theorem dX11_sets_106 : decode cX11_sets 106 = .ok (.sipush 203, 3) := by decide +kernel
theorem dX11_sets_109 : decode cX11_sets 109 = .ok (.iaload, 1) := by decide +kernel
theorem dX11_sets_110 : decode cX11_sets 110 = .ok (.invokevirtual 132, 3) := by decide +kernel
theorem dX11_sets_113 : decode cX11_sets 113 = .ok (.aload_n 0, 1) := by decide +kernel
theorem dX11_sets_114 : decode cX11_sets 114 = .ok (.iload 4, 2) := by decide +kernel
theorem dX11_sets_116 : decode cX11_sets 116 = .ok (.iload_n 2, 1) := by decide +kernel
theorem dX11_sets_117 : decode cX11_sets 117 = .ok (.iload_n 3, 1) := by decide +kernel
theorem dX11_sets_118 : decode cX11_sets 118 = .ok (.iload 5, 2) := by decide +kernel
theorem dX11_sets_120 : decode cX11_sets 120 = .ok (.invokevirtual 136, 3) := by decide +kernel
theorem dX11_sets_123 : decode cX11_sets 123 = .ok (.iadd, 1) := by decide +kernel
theorem dX11_sets_124 : decode cX11_sets 124 = .ok (.aload_n 0, 1) := by decide +kernel
theorem dX11_sets_125 : decode cX11_sets 125 = .ok (.getfield 43, 3) := by decide +kernel
theorem dX11_sets_128 : decode cX11_sets 128 = .ok (.aload_n 0, 1) := by decide +kernel
theorem dX11_sets_129 : decode cX11_sets 129 = .ok (.iload 4, 2) := by decide +kernel
theorem dX11_sets_131 : decode cX11_sets 131 = .ok (.iload_n 2, 1) := by decide +kernel
theorem dX11_sets_132 : decode cX11_sets 132 = .ok (.iload_n 3, 1) := by decide +kernel
theorem dX11_sets_133 : decode cX11_sets 133 = .ok (.invokevirtual 129, 3) := by decide +kernel
end
section
theorem dX11_sets_136 : decode cX11_sets 136 = .ok (.iaload, 1) := by decide +kernel
theorem dX11_sets_137 : decode cX11_sets 137 = .ok (.if_icmp .eq 9, 3) := by decide +kernel
theorem dX11_sets_140 : decode cX11_sets 140 = .ok (.iinc 5 1, 3) := by decide +kernel
theorem dX11_sets_143 : decode cX11_sets 143 = .ok (.goto (-87), 3) := by decide +kernel
theorem dX11_sets_146 : decode cX11_sets 146 = .ok (.aload_n 0, 1) := by decide +kernel
theorem dX11_sets_147 : decode cX11_sets 147 = .ok (.getfield 46, 3) := by decide +kernel
theorem dX11_sets_150 : decode cX11_sets 150 = .ok (.iload 4, 2) := by decide +kernel
theorem dX11_sets_152 : decode cX11_sets 152 = .ok (.iload 5, 2) := by decide +kernel
theorem dX11_sets_154 : decode cX11_sets 154 = .ok (.iastore, 1) := by decide +kernel
theorem dX11_sets_155 : decode cX11_sets 155 = .ok (.iload 5, 2) := by decide +kernel
theorem dX11_sets_157 : decode cX11_sets 157 = .ok (.iconst 2, 1) := by decide +kernel
theorem dX11_sets_158 : decode cX11_sets 158 = .ok (.if_icmp .ge 37, 3) := by decide +kernel
theorem dX11_sets_161 : decode cX11_sets 161 = .ok (.aload_n 0, 1) := by decide +kernel
theorem dX11_sets_162 : decode cX11_sets 162 = .ok (.getfield 49, 3) := by decide +kernel
theorem dX11_sets_165 : decode cX11_sets 165 = .ok (.iload 5, 2) := by decide +kernel
theorem dX11_sets_167 : decode cX11_sets 167 = .ok (.dup2, 1) := by decide +kernel
theorem dX11_sets_168 : decode cX11_sets 168 = .ok (.iaload, 1) := by decide +kernel
theorem dX11_sets_169 : decode cX11_sets 169 = .ok (.aload_n 0, 1) := by decide +kernel
theorem dX11_sets_170 : decode cX11_sets 170 = .ok (.iload 5, 2) := by decide +kernel
theorem dX11_sets_172 : decode cX11_sets 172 = .ok (.ifCond .ne 7, 3) := by decide +kernel
theorem dX11_sets_175 : decode cX11_sets 175 = .ok (.iload_n 2, 1) := by decide +kernel
theorem dX11_sets_176 : decode cX11_sets 176 = .ok (.goto 4, 3) := by decide +kernel
theorem dX11_sets_179 : decode cX11_sets 179 = .ok (.iload_n 3, 1) := by decide +kernel
theorem dX11_sets_180 : decode cX11_sets 180 = .ok (.iload 4, 2) := by decide +kernel
theorem dX11_sets_182 : decode cX11_sets 182 = .ok (.aload_n 0, 1) := by decide +kernel
theorem dX11_sets_183 : decode cX11_sets 183 = .ok (.getfield 7, 3) := by decide +kernel
theorem dX11_sets_186 : decode cX11_sets 186 = .ok (.sipush 202, 3) := by decide +kernel
theorem dX11_sets_189 : decode cX11_sets 189 = .ok (.iaload, 1) := by decide +kernel
theorem dX11_sets_190 : decode cX11_sets 190 = .ok (.invokevirtual 125, 3) := by decide +kernel
theorem dX11_sets_193 : decode cX11_sets 193 = .ok (.iadd, 1) := by decide +kernel
theorem dX11_sets_194 : decode cX11_sets 194 = .ok (.iastore, 1) := by decide +kernel
theorem dX11_sets_195 : decode cX11_sets 195 = .ok (.iload 5, 2) := by decide +kernel
theorem dX11_sets_197 : decode cX11_sets 197 = .ok (.ifCond .ne 8, 3) := by decide +kernel
theorem dX11_sets_200 : decode cX11_sets 200 = .ok (.iload 4, 2) := by decide +kernel
theorem dX11_sets_202 : decode cX11_sets 202 = .ok (.iconst 1, 1) := by decide +kernel
theorem dX11_sets_203 : decode cX11_sets 203 = .ok (.iadd, 1) := by decide +kernel
theorem dX11_sets_204 : decode cX11_sets 204 = .ok (.istore_n 2, 1) := by decide +kernel
theorem dX11_sets_205 : decode cX11_sets 205 = .ok (.iload 5, 2) := by decide +kernel
theorem dX11_sets_207 : decode cX11_sets 207 = .ok (.iconst 1, 1) := by decide +kernel
theorem dX11_sets_208 : decode cX11_sets 208 = .ok (.if_icmp .ne 8, 3) := by decide +kernel
theorem dX11_sets_211 : decode cX11_sets 211 = .ok (.iload 4, 2) := by decide +kernel
theorem dX11_sets_213 : decode cX11_sets 213 = .ok (.iconst 1, 1) := by decide +kernel
theorem dX11_sets_214 : decode cX11_sets 214 = .ok (.iadd, 1) := by decide +kernel
theorem dX11_sets_215 : decode cX11_sets 215 = .ok (.istore_n 3, 1) := by decide +kernel
theorem dX11_sets_216 : decode cX11_sets 216 = .ok (.iinc 4 1, 3) := by decide +kernel
theorem dX11_sets_219 : decode cX11_sets 219 = .ok (.goto (-177), 3) := by decide +kernel
theorem dX11_sets_222 : decode cX11_sets 222 = .ok (.iload_n 1, 1) := by decide +kernel
theorem dX11_sets_223 : decode cX11_sets 223 = .ok (.ireturn, 1) := by decide +kernel
theorem dX11_fists_0 : decode cX11_fists 0 = .ok (.iload_n 1, 1) := by decide +kernel
theorem dX11_fists_1 : decode cX11_fists 1 = .ok (.iconst 1, 1) := by decide +kernel
theorem dX11_fists_2 : decode cX11_fists 2 = .ok (.if_icmp .lt 20, 3) := by decide +kernel
theorem dX11_fists_5 : decode cX11_fists 5 = .ok (.iload_n 1, 1) := by decide +kernel
theorem dX11_fists_6 : decode cX11_fists 6 = .ok (.bipush 24, 2) := by decide +kernel
theorem dX11_fists_8 : decode cX11_fists 8 = .ok (.if_icmp .gt 14, 3) := by decide +kernel
theorem dX11_fists_11 : decode cX11_fists 11 = .ok (.iload_n 2, 1) := by decide +kernel
theorem dX11_fists_12 : decode cX11_fists 12 = .ok (.ifCond .lt 10, 3) := by decide +kernel
theorem dX11_fists_15 : decode cX11_fists 15 = .ok (.iload_n 2, 1) := by decide +kernel
theorem dX11_fists_16 : decode cX11_fists 16 = .ok (.sipush 10000, 3) := by decide +kernel
theorem dX11_fists_19 : decode cX11_fists 19 = .ok (.if_icmp .le 5, 3) := by decide +kernel
theorem dX11_fists_22 : decode cX11_fists 22 = .ok (.iconst 0, 1) := by decide +kernel
theorem dX11_fists_23 : decode cX11_fists 23 = .ok (.ireturn, 1) := by decide +kernel
theorem dX11_fists_24 : decode cX11_fists 24 = .ok (.aload_n 0, 1) := by decide +kernel
theorem dX11_fists_25 : decode cX11_fists 25 = .ok (.getfield 7, 3) := by decide +kernel
theorem dX11_fists_28 : decode cX11_fists 28 = .ok (.sipush 202, 3) := by decide +kernel
theorem dX11_fists_31 : decode cX11_fists 31 = .ok (.iload_n 1, 1) := by decide +kernel
theorem dX11_fists_32 : decode cX11_fists 32 = .ok (.iastore, 1) := by decide +kernel
theorem dX11_fists_33 : decode cX11_fists 33 = .ok (.aload_n 0, 1) := by decide +kernel
theorem dX11_fists_34 : decode cX11_fists 34 = .ok (.getfield 7, 3) := by decide +kernel
theorem dX11_fists_37 : decode cX11_fists 37 = .ok (.sipush 203, 3) := by decide +kernel
theorem dX11_fists_40 : decode cX11_fists 40 = .ok (.iload_n 2, 1) := by decide +kernel
theorem dX11_fists_41 : decode cX11_fists 41 = .ok (.iastore, 1) := by decide +kernel
theorem dX11_fists_42 : decode cX11_fists 42 = .ok (.iconst 1, 1) := by decide +kernel
theorem dX11_fists_43 : decode cX11_fists 43 = .ok (.ireturn, 1) := by decide +kernel
theorem dX11_cost_0 : decode cX11_cost 0 = .ok (.aload_n 0, 1) := by decide +kernel
theorem dX11_cost_1 : decode cX11_cost 1 = .ok (.invokevirtual 143, 3) := by decide +kernel
theorem dX11_cost_4 : decode cX11_cost 4 = .ok (.ireturn, 1) := by decide +kernel
theorem dX11_need_0 : decode cX11_need 0 = .ok (.iconst 1, 1) := by decide +kernel
theorem dX11_need_1 : decode cX11_need 1 = .ok (.istore_n 1, 1) := by decide +kernel
theorem dX11_need_2 : decode cX11_need 2 = .ok (.iload_n 1, 1) := by decide +kernel
theorem dX11_need_3 : decode cX11_need 3 = .ok (.bipush 24, 2) := by decide +kernel
theorem dX11_need_5 : decode cX11_need 5 = .ok (.if_icmp .gt 23, 3) := by decide +kernel
theorem dX11_need_8 : decode cX11_need 8 = .ok (.aload_n 0, 1) := by decide +kernel
theorem dX11_need_9 : decode cX11_need 9 = .ok (.iload_n 1, 1) := by decide +kernel
theorem dX11_need_10 : decode cX11_need 10 = .ok (.ldc 120, 2) := by decide +kernel
theorem dX11_need_12 : decode cX11_need 12 = .ok (.invokevirtual 140, 3) := by decide +kernel
theorem dX11_need_15 : decode cX11_need 15 = .ok (.ldc 120, 2) := by decide +kernel
theorem dX11_need_17 : decode cX11_need 17 = .ok (.if_icmp .ge 5, 3) := by decide +kernel
theorem dX11_need_20 : decode cX11_need 20 = .ok (.iload_n 1, 1) := by decide +kernel
theorem dX11_need_21 : decode cX11_need 21 = .ok (.ireturn, 1) := by decide +kernel
theorem dX11_need_22 : decode cX11_need 22 = .ok (.iinc 1 1, 3) := by decide +kernel
theorem dX11_need_25 : decode cX11_need 25 = .ok (.goto (-23), 3) := by decide +kernel
theorem dX11_need_28 : decode cX11_need 28 = .ok (.iconst (-1), 1) := by decide +kernel
theorem dX11_need_29 : decode cX11_need 29 = .ok (.ireturn, 1) := by decide +kernel
theorem dX11_by_0 : decode cX11_by 0 = .ok (.iload_n 1, 1) := by decide +kernel
theorem dX11_by_1 : decode cX11_by 1 = .ok (.ifCond .lt 13, 3) := by decide +kernel
theorem dX11_by_4 : decode cX11_by 4 = .ok (.iload_n 1, 1) := by decide +kernel
theorem dX11_by_5 : decode cX11_by 5 = .ok (.aload_n 0, 1) := by decide +kernel
theorem dX11_by_6 : decode cX11_by 6 = .ok (.getfield 7, 3) := by decide +kernel
theorem dX11_by_9 : decode cX11_by 9 = .ok (.iconst 0, 1) := by decide +kernel
theorem dX11_by_10 : decode cX11_by 10 = .ok (.iaload, 1) := by decide +kernel
theorem dX11_by_11 : decode cX11_by 11 = .ok (.if_icmp .lt 5, 3) := by decide +kernel
theorem dX11_by_14 : decode cX11_by 14 = .ok (.iconst (-1), 1) := by decide +kernel
theorem dX11_by_15 : decode cX11_by 15 = .ok (.ireturn, 1) := by decide +kernel
theorem dX11_by_16 : decode cX11_by 16 = .ok (.aload_n 0, 1) := by decide +kernel
theorem dX11_by_17 : decode cX11_by 17 = .ok (.invokevirtual 143, 3) := by decide +kernel
theorem dX11_by_20 : decode cX11_by 20 = .ok (.pop, 1) := by decide +kernel
theorem dX11_by_21 : decode cX11_by 21 = .ok (.aload_n 0, 1) := by decide +kernel
theorem dX11_by_22 : decode cX11_by 22 = .ok (.getfield 46, 3) := by decide +kernel
theorem dX11_by_25 : decode cX11_by 25 = .ok (.iload_n 1, 1) := by decide +kernel
theorem dX11_by_26 : decode cX11_by 26 = .ok (.iaload, 1) := by decide +kernel
theorem dX11_by_27 : decode cX11_by 27 = .ok (.ireturn, 1) := by decide +kernel
theorem dX11_way_0 : decode cX11_way 0 = .ok (.iload_n 1, 1) := by decide +kernel
theorem dX11_way_1 : decode cX11_way 1 = .ok (.ifCond .eq 10, 3) := by decide +kernel
theorem dX11_way_4 : decode cX11_way 4 = .ok (.iload_n 1, 1) := by decide +kernel
theorem dX11_way_5 : decode cX11_way 5 = .ok (.iconst 1, 1) := by decide +kernel
theorem dX11_way_6 : decode cX11_way 6 = .ok (.if_icmp .eq 5, 3) := by decide +kernel
theorem dX11_way_9 : decode cX11_way 9 = .ok (.iconst (-1), 1) := by decide +kernel
theorem dX11_way_10 : decode cX11_way 10 = .ok (.ireturn, 1) := by decide +kernel
theorem dX11_way_11 : decode cX11_way 11 = .ok (.aload_n 0, 1) := by decide +kernel
theorem dX11_way_12 : decode cX11_way 12 = .ok (.invokevirtual 143, 3) := by decide +kernel
theorem dX11_way_15 : decode cX11_way 15 = .ok (.pop, 1) := by decide +kernel
theorem dX11_way_16 : decode cX11_way 16 = .ok (.aload_n 0, 1) := by decide +kernel
theorem dX11_way_17 : decode cX11_way 17 = .ok (.getfield 49, 3) := by decide +kernel
theorem dX11_way_20 : decode cX11_way 20 = .ok (.iload_n 1, 1) := by decide +kernel
theorem dX11_way_21 : decode cX11_way 21 = .ok (.iaload, 1) := by decide +kernel
theorem dX11_way_22 : decode cX11_way 22 = .ok (.ireturn, 1) := by decide +kernel
theorem dX11_count_0 : decode cX11_count 0 = .ok (.iload_n 1, 1) := by decide +kernel
theorem dX11_count_1 : decode cX11_count 1 = .ok (.tableswitch 81 0 2 #[27, 34, 41], 27) := by decide +kernel
theorem dX11_count_28 : decode cX11_count 28 = .ok (.aload_n 0, 1) := by decide +kernel
theorem dX11_count_29 : decode cX11_count 29 = .ok (.getfield 7, 3) := by decide +kernel
theorem dX11_count_32 : decode cX11_count 32 = .ok (.iconst 0, 1) := by decide +kernel
theorem dX11_count_33 : decode cX11_count 33 = .ok (.iaload, 1) := by decide +kernel
theorem dX11_count_34 : decode cX11_count 34 = .ok (.ireturn, 1) := by decide +kernel
theorem dX11_count_35 : decode cX11_count 35 = .ok (.aload_n 0, 1) := by decide +kernel
theorem dX11_count_36 : decode cX11_count 36 = .ok (.getfield 7, 3) := by decide +kernel
theorem dX11_count_39 : decode cX11_count 39 = .ok (.iconst 1, 1) := by decide +kernel
theorem dX11_count_40 : decode cX11_count 40 = .ok (.iaload, 1) := by decide +kernel
theorem dX11_count_41 : decode cX11_count 41 = .ok (.ireturn, 1) := by decide +kernel
theorem dX11_count_42 : decode cX11_count 42 = .ok (.aload_n 0, 1) := by decide +kernel
theorem dX11_count_43 : decode cX11_count 43 = .ok (.invokevirtual 143, 3) := by decide +kernel
theorem dX11_count_46 : decode cX11_count 46 = .ok (.pop, 1) := by decide +kernel
theorem dX11_count_47 : decode cX11_count 47 = .ok (.iconst 0, 1) := by decide +kernel
theorem dX11_count_48 : decode cX11_count 48 = .ok (.istore_n 2, 1) := by decide +kernel
theorem dX11_count_49 : decode cX11_count 49 = .ok (.iconst 0, 1) := by decide +kernel
theorem dX11_count_50 : decode cX11_count 50 = .ok (.istore_n 3, 1) := by decide +kernel
theorem dX11_count_51 : decode cX11_count 51 = .ok (.iload_n 3, 1) := by decide +kernel
theorem dX11_count_52 : decode cX11_count 52 = .ok (.aload_n 0, 1) := by decide +kernel
theorem dX11_count_53 : decode cX11_count 53 = .ok (.getfield 7, 3) := by decide +kernel
theorem dX11_count_56 : decode cX11_count 56 = .ok (.iconst 0, 1) := by decide +kernel
theorem dX11_count_57 : decode cX11_count 57 = .ok (.iaload, 1) := by decide +kernel
theorem dX11_count_58 : decode cX11_count 58 = .ok (.if_icmp .ge 22, 3) := by decide +kernel
theorem dX11_count_61 : decode cX11_count 61 = .ok (.aload_n 0, 1) := by decide +kernel
theorem dX11_count_62 : decode cX11_count 62 = .ok (.getfield 46, 3) := by decide +kernel
theorem dX11_count_65 : decode cX11_count 65 = .ok (.iload_n 3, 1) := by decide +kernel
theorem dX11_count_66 : decode cX11_count 66 = .ok (.iaload, 1) := by decide +kernel
theorem dX11_count_67 : decode cX11_count 67 = .ok (.iconst 2, 1) := by decide +kernel
theorem dX11_count_68 : decode cX11_count 68 = .ok (.if_icmp .ne 6, 3) := by decide +kernel
theorem dX11_count_71 : decode cX11_count 71 = .ok (.iinc 2 1, 3) := by decide +kernel
theorem dX11_count_74 : decode cX11_count 74 = .ok (.iinc 3 1, 3) := by decide +kernel
theorem dX11_count_77 : decode cX11_count 77 = .ok (.goto (-26), 3) := by decide +kernel
theorem dX11_count_80 : decode cX11_count 80 = .ok (.iload_n 2, 1) := by decide +kernel
theorem dX11_count_81 : decode cX11_count 81 = .ok (.ireturn, 1) := by decide +kernel
theorem dX11_count_82 : decode cX11_count 82 = .ok (.iconst (-1), 1) := by decide +kernel
theorem dX11_count_83 : decode cX11_count 83 = .ok (.ireturn, 1) := by decide +kernel
theorem dX11_isBell_0 : decode cX11_isBell 0 = .ok (.iload_n 0, 1) := by decide +kernel
theorem dX11_isBell_1 : decode cX11_isBell 1 = .ok (.ifCond .lt 13, 3) := by decide +kernel
theorem dX11_isBell_4 : decode cX11_isBell 4 = .ok (.iload_n 0, 1) := by decide +kernel
theorem dX11_isBell_5 : decode cX11_isBell 5 = .ok (.bipush 24, 2) := by decide +kernel
theorem dX11_isBell_7 : decode cX11_isBell 7 = .ok (.if_icmp .ge 7, 3) := by decide +kernel
theorem dX11_isBell_10 : decode cX11_isBell 10 = .ok (.iconst 1, 1) := by decide +kernel
theorem dX11_isBell_11 : decode cX11_isBell 11 = .ok (.goto 4, 3) := by decide +kernel
theorem dX11_isBell_14 : decode cX11_isBell 14 = .ok (.iconst 0, 1) := by decide +kernel
theorem dX11_isBell_15 : decode cX11_isBell 15 = .ok (.ireturn, 1) := by decide +kernel
theorem dX11_tail_0 : decode cX11_tail 0 = .ok (.iload_n 1, 1) := by decide +kernel
theorem dX11_tail_1 : decode cX11_tail 1 = .ok (.invokestatic 146, 3) := by decide +kernel
theorem dX11_tail_4 : decode cX11_tail 4 = .ok (.ifCond .eq 14, 3) := by decide +kernel
theorem dX11_tail_7 : decode cX11_tail 7 = .ok (.iload_n 2, 1) := by decide +kernel
theorem dX11_tail_8 : decode cX11_tail 8 = .ok (.iconst 1, 1) := by decide +kernel
theorem dX11_tail_9 : decode cX11_tail 9 = .ok (.if_icmp .lt 9, 3) := by decide +kernel
theorem dX11_tail_12 : decode cX11_tail 12 = .ok (.iload_n 2, 1) := by decide +kernel
theorem dX11_tail_13 : decode cX11_tail 13 = .ok (.bipush 60, 2) := by decide +kernel
theorem dX11_tail_15 : decode cX11_tail 15 = .ok (.if_icmp .le 5, 3) := by decide +kernel
theorem dX11_tail_18 : decode cX11_tail 18 = .ok (.iconst (-1), 1) := by decide +kernel
theorem dX11_tail_19 : decode cX11_tail 19 = .ok (.ireturn, 1) := by decide +kernel
theorem dX11_tail_20 : decode cX11_tail 20 = .ok (.aload_n 0, 1) := by decide +kernel
theorem dX11_tail_21 : decode cX11_tail 21 = .ok (.getfield 7, 3) := by decide +kernel
theorem dX11_tail_24 : decode cX11_tail 24 = .ok (.sipush 204, 3) := by decide +kernel
theorem dX11_tail_27 : decode cX11_tail 27 = .ok (.iload_n 1, 1) := by decide +kernel
theorem dX11_tail_28 : decode cX11_tail 28 = .ok (.iadd, 1) := by decide +kernel
theorem dX11_tail_29 : decode cX11_tail 29 = .ok (.iaload, 1) := by decide +kernel
theorem dX11_tail_30 : decode cX11_tail 30 = .ok (.istore_n 3, 1) := by decide +kernel
theorem dX11_tail_31 : decode cX11_tail 31 = .ok (.aload_n 0, 1) := by decide +kernel
theorem dX11_tail_32 : decode cX11_tail 32 = .ok (.getfield 7, 3) := by decide +kernel
theorem dX11_tail_35 : decode cX11_tail 35 = .ok (.sipush 204, 3) := by decide +kernel
theorem dX11_tail_38 : decode cX11_tail 38 = .ok (.iload_n 1, 1) := by decide +kernel
theorem dX11_tail_39 : decode cX11_tail 39 = .ok (.iadd, 1) := by decide +kernel
theorem dX11_tail_40 : decode cX11_tail 40 = .ok (.iload_n 2, 1) := by decide +kernel
theorem dX11_tail_41 : decode cX11_tail 41 = .ok (.iastore, 1) := by decide +kernel
theorem dX11_tail_42 : decode cX11_tail 42 = .ok (.iload_n 3, 1) := by decide +kernel
theorem dX11_tail_43 : decode cX11_tail 43 = .ok (.ireturn, 1) := by decide +kernel
theorem dX11_quarrel_0 : decode cX11_quarrel 0 = .ok (.iload_n 1, 1) := by decide +kernel
theorem dX11_quarrel_1 : decode cX11_quarrel 1 = .ok (.ifCond .lt 10, 3) := by decide +kernel
theorem dX11_quarrel_4 : decode cX11_quarrel 4 = .ok (.iload_n 1, 1) := by decide +kernel
theorem dX11_quarrel_5 : decode cX11_quarrel 5 = .ok (.sipush 4095, 3) := by decide +kernel
theorem dX11_quarrel_8 : decode cX11_quarrel 8 = .ok (.if_icmp .le 5, 3) := by decide +kernel
theorem dX11_quarrel_11 : decode cX11_quarrel 11 = .ok (.iconst (-1), 1) := by decide +kernel
theorem dX11_quarrel_12 : decode cX11_quarrel 12 = .ok (.ireturn, 1) := by decide +kernel
theorem dX11_quarrel_13 : decode cX11_quarrel 13 = .ok (.aload_n 0, 1) := by decide +kernel
theorem dX11_quarrel_14 : decode cX11_quarrel 14 = .ok (.getfield 7, 3) := by decide +kernel
theorem dX11_quarrel_17 : decode cX11_quarrel 17 = .ok (.sipush 228, 3) := by decide +kernel
theorem dX11_quarrel_20 : decode cX11_quarrel 20 = .ok (.iaload, 1) := by decide +kernel
theorem dX11_quarrel_21 : decode cX11_quarrel 21 = .ok (.istore_n 2, 1) := by decide +kernel
theorem dX11_quarrel_22 : decode cX11_quarrel 22 = .ok (.aload_n 0, 1) := by decide +kernel
theorem dX11_quarrel_23 : decode cX11_quarrel 23 = .ok (.getfield 7, 3) := by decide +kernel
theorem dX11_quarrel_26 : decode cX11_quarrel 26 = .ok (.sipush 228, 3) := by decide +kernel
theorem dX11_quarrel_29 : decode cX11_quarrel 29 = .ok (.iload_n 1, 1) := by decide +kernel
theorem dX11_quarrel_30 : decode cX11_quarrel 30 = .ok (.iastore, 1) := by decide +kernel
theorem dX11_quarrel_31 : decode cX11_quarrel 31 = .ok (.iload_n 2, 1) := by decide +kernel
theorem dX11_quarrel_32 : decode cX11_quarrel 32 = .ok (.ireturn, 1) := by decide +kernel
theorem dX11_sounds_0 : decode cX11_sounds 0 = .ok (.iload_n 1, 1) := by decide +kernel
theorem dX11_sounds_1 : decode cX11_sounds 1 = .ok (.ifCond .lt 13, 3) := by decide +kernel
theorem dX11_sounds_4 : decode cX11_sounds 4 = .ok (.iload_n 1, 1) := by decide +kernel
theorem dX11_sounds_5 : decode cX11_sounds 5 = .ok (.aload_n 0, 1) := by decide +kernel
theorem dX11_sounds_6 : decode cX11_sounds 6 = .ok (.getfield 7, 3) := by decide +kernel
theorem dX11_sounds_9 : decode cX11_sounds 9 = .ok (.iconst 0, 1) := by decide +kernel
theorem dX11_sounds_10 : decode cX11_sounds 10 = .ok (.iaload, 1) := by decide +kernel
theorem dX11_sounds_11 : decode cX11_sounds 11 = .ok (.if_icmp .lt 5, 3) := by decide +kernel
theorem dX11_sounds_14 : decode cX11_sounds 14 = .ok (.iconst (-1), 1) := by decide +kernel
theorem dX11_sounds_15 : decode cX11_sounds 15 = .ok (.ireturn, 1) := by decide +kernel
theorem dX11_sounds_16 : decode cX11_sounds 16 = .ok (.aload_n 0, 1) := by decide +kernel
theorem dX11_sounds_17 : decode cX11_sounds 17 = .ok (.getfield 7, 3) := by decide +kernel
theorem dX11_sounds_20 : decode cX11_sounds 20 = .ok (.sipush 204, 3) := by decide +kernel
theorem dX11_sounds_23 : decode cX11_sounds 23 = .ok (.aload_n 0, 1) := by decide +kernel
theorem dX11_sounds_24 : decode cX11_sounds 24 = .ok (.getfield 7, 3) := by decide +kernel
theorem dX11_sounds_27 : decode cX11_sounds 27 = .ok (.bipush 102, 2) := by decide +kernel
theorem dX11_sounds_29 : decode cX11_sounds 29 = .ok (.iload_n 1, 1) := by decide +kernel
theorem dX11_sounds_30 : decode cX11_sounds 30 = .ok (.iadd, 1) := by decide +kernel
theorem dX11_sounds_31 : decode cX11_sounds 31 = .ok (.iaload, 1) := by decide +kernel
theorem dX11_sounds_32 : decode cX11_sounds 32 = .ok (.iadd, 1) := by decide +kernel
theorem dX11_sounds_33 : decode cX11_sounds 33 = .ok (.iaload, 1) := by decide +kernel
theorem dX11_sounds_34 : decode cX11_sounds 34 = .ok (.istore_n 2, 1) := by decide +kernel
theorem dX11_sounds_35 : decode cX11_sounds 35 = .ok (.iload_n 1, 1) := by decide +kernel
theorem dX11_sounds_36 : decode cX11_sounds 36 = .ok (.iconst 1, 1) := by decide +kernel
theorem dX11_sounds_37 : decode cX11_sounds 37 = .ok (.iadd, 1) := by decide +kernel
theorem dX11_sounds_38 : decode cX11_sounds 38 = .ok (.istore_n 3, 1) := by decide +kernel
theorem dX11_sounds_39 : decode cX11_sounds 39 = .ok (.iload_n 3, 1) := by decide +kernel
theorem dX11_sounds_40 : decode cX11_sounds 40 = .ok (.aload_n 0, 1) := by decide +kernel
theorem dX11_sounds_41 : decode cX11_sounds 41 = .ok (.getfield 7, 3) := by decide +kernel
theorem dX11_sounds_44 : decode cX11_sounds 44 = .ok (.iconst 0, 1) := by decide +kernel
theorem dX11_sounds_45 : decode cX11_sounds 45 = .ok (.iaload, 1) := by decide +kernel
theorem dX11_sounds_46 : decode cX11_sounds 46 = .ok (.if_icmp .ge 69, 3) := by decide +kernel
theorem dX11_sounds_49 : decode cX11_sounds 49 = .ok (.aload_n 0, 1) := by decide +kernel
theorem dX11_sounds_50 : decode cX11_sounds 50 = .ok (.getfield 7, 3) := by decide +kernel
theorem dX11_sounds_53 : decode cX11_sounds 53 = .ok (.bipush 102, 2) := by decide +kernel
theorem dX11_sounds_55 : decode cX11_sounds 55 = .ok (.iload_n 3, 1) := by decide +kernel
theorem dX11_sounds_56 : decode cX11_sounds 56 = .ok (.iadd, 1) := by decide +kernel
theorem dX11_sounds_57 : decode cX11_sounds 57 = .ok (.iaload, 1) := by decide +kernel
theorem dX11_sounds_58 : decode cX11_sounds 58 = .ok (.aload_n 0, 1) := by decide +kernel
theorem dX11_sounds_59 : decode cX11_sounds 59 = .ok (.getfield 7, 3) := by decide +kernel
theorem dX11_sounds_62 : decode cX11_sounds 62 = .ok (.bipush 102, 2) := by decide +kernel
theorem dX11_sounds_64 : decode cX11_sounds 64 = .ok (.iload_n 1, 1) := by decide +kernel
theorem dX11_sounds_65 : decode cX11_sounds 65 = .ok (.iadd, 1) := by decide +kernel
theorem dX11_sounds_66 : decode cX11_sounds 66 = .ok (.iaload, 1) := by decide +kernel
theorem dX11_sounds_67 : decode cX11_sounds 67 = .ok (.if_icmp .ne 42, 3) := by decide +kernel
theorem dX11_sounds_70 : decode cX11_sounds 70 = .ok (.aload_n 0, 1) := by decide +kernel
theorem dX11_sounds_71 : decode cX11_sounds 71 = .ok (.getfield 7, 3) := by decide +kernel
theorem dX11_sounds_74 : decode cX11_sounds 74 = .ok (.iconst 2, 1) := by decide +kernel
theorem dX11_sounds_75 : decode cX11_sounds 75 = .ok (.iload_n 3, 1) := by decide +kernel
theorem dX11_sounds_76 : decode cX11_sounds 76 = .ok (.iadd, 1) := by decide +kernel
theorem dX11_sounds_77 : decode cX11_sounds 77 = .ok (.iaload, 1) := by decide +kernel
theorem dX11_sounds_78 : decode cX11_sounds 78 = .ok (.aload_n 0, 1) := by decide +kernel
theorem dX11_sounds_79 : decode cX11_sounds 79 = .ok (.getfield 7, 3) := by decide +kernel
theorem dX11_sounds_82 : decode cX11_sounds 82 = .ok (.iconst 2, 1) := by decide +kernel
theorem dX11_sounds_83 : decode cX11_sounds 83 = .ok (.iload_n 1, 1) := by decide +kernel
theorem dX11_sounds_84 : decode cX11_sounds 84 = .ok (.iadd, 1) := by decide +kernel
theorem dX11_sounds_85 : decode cX11_sounds 85 = .ok (.iaload, 1) := by decide +kernel
theorem dX11_sounds_86 : decode cX11_sounds 86 = .ok (.isub, 1) := by decide +kernel
theorem dX11_sounds_87 : decode cX11_sounds 87 = .ok (.iload_n 2, 1) := by decide +kernel
theorem dX11_sounds_88 : decode cX11_sounds 88 = .ok (.if_icmp .ge 21, 3) := by decide +kernel
theorem dX11_sounds_91 : decode cX11_sounds 91 = .ok (.aload_n 0, 1) := by decide +kernel
theorem dX11_sounds_92 : decode cX11_sounds 92 = .ok (.getfield 7, 3) := by decide +kernel
theorem dX11_sounds_95 : decode cX11_sounds 95 = .ok (.iconst 2, 1) := by decide +kernel
theorem dX11_sounds_96 : decode cX11_sounds 96 = .ok (.iload_n 3, 1) := by decide +kernel
theorem dX11_sounds_97 : decode cX11_sounds 97 = .ok (.iadd, 1) := by decide +kernel
theorem dX11_sounds_98 : decode cX11_sounds 98 = .ok (.iaload, 1) := by decide +kernel
theorem dX11_sounds_99 : decode cX11_sounds 99 = .ok (.aload_n 0, 1) := by decide +kernel
theorem dX11_sounds_100 : decode cX11_sounds 100 = .ok (.getfield 7, 3) := by decide +kernel
theorem dX11_sounds_103 : decode cX11_sounds 103 = .ok (.iconst 2, 1) := by decide +kernel
theorem dX11_sounds_104 : decode cX11_sounds 104 = .ok (.iload_n 1, 1) := by decide +kernel
theorem dX11_sounds_105 : decode cX11_sounds 105 = .ok (.iadd, 1) := by decide +kernel
theorem dX11_sounds_106 : decode cX11_sounds 106 = .ok (.iaload, 1) := by decide +kernel
theorem dX11_sounds_107 : decode cX11_sounds 107 = .ok (.isub, 1) := by decide +kernel
theorem dX11_sounds_108 : decode cX11_sounds 108 = .ok (.istore_n 2, 1) := by decide +kernel
theorem dX11_sounds_109 : decode cX11_sounds 109 = .ok (.iinc 3 1, 3) := by decide +kernel
theorem dX11_sounds_112 : decode cX11_sounds 112 = .ok (.goto (-73), 3) := by decide +kernel
theorem dX11_sounds_115 : decode cX11_sounds 115 = .ok (.iload_n 2, 1) := by decide +kernel
theorem dX11_sounds_116 : decode cX11_sounds 116 = .ok (.ireturn, 1) := by decide +kernel
theorem dX11_quarrels_0 : decode cX11_quarrels 0 = .ok (.iconst 0, 1) := by decide +kernel
theorem dX11_quarrels_1 : decode cX11_quarrels 1 = .ok (.istore_n 1, 1) := by decide +kernel
theorem dX11_quarrels_2 : decode cX11_quarrels 2 = .ok (.iconst 0, 1) := by decide +kernel
theorem dX11_quarrels_3 : decode cX11_quarrels 3 = .ok (.istore_n 2, 1) := by decide +kernel
theorem dX11_quarrels_4 : decode cX11_quarrels 4 = .ok (.iload_n 2, 1) := by decide +kernel
theorem dX11_quarrels_5 : decode cX11_quarrels 5 = .ok (.aload_n 0, 1) := by decide +kernel
theorem dX11_quarrels_6 : decode cX11_quarrels 6 = .ok (.getfield 7, 3) := by decide +kernel
theorem dX11_quarrels_9 : decode cX11_quarrels 9 = .ok (.iconst 0, 1) := by decide +kernel
theorem dX11_quarrels_10 : decode cX11_quarrels 10 = .ok (.iaload, 1) := by decide +kernel
theorem dX11_quarrels_11 : decode cX11_quarrels 11 = .ok (.if_icmp .ge 163, 3) := by decide +kernel
theorem dX11_quarrels_14 : decode cX11_quarrels 14 = .ok (.iload_n 2, 1) := by decide +kernel
theorem dX11_quarrels_15 : decode cX11_quarrels 15 = .ok (.iconst 1, 1) := by decide +kernel
theorem dX11_quarrels_16 : decode cX11_quarrels 16 = .ok (.iadd, 1) := by decide +kernel
theorem dX11_quarrels_17 : decode cX11_quarrels 17 = .ok (.istore_n 3, 1) := by decide +kernel
theorem dX11_quarrels_18 : decode cX11_quarrels 18 = .ok (.iload_n 3, 1) := by decide +kernel
theorem dX11_quarrels_19 : decode cX11_quarrels 19 = .ok (.aload_n 0, 1) := by decide +kernel
theorem dX11_quarrels_20 : decode cX11_quarrels 20 = .ok (.getfield 7, 3) := by decide +kernel
theorem dX11_quarrels_23 : decode cX11_quarrels 23 = .ok (.iconst 0, 1) := by decide +kernel
theorem dX11_quarrels_24 : decode cX11_quarrels 24 = .ok (.iaload, 1) := by decide +kernel
theorem dX11_quarrels_25 : decode cX11_quarrels 25 = .ok (.if_icmp .ge 143, 3) := by decide +kernel
theorem dX11_quarrels_28 : decode cX11_quarrels 28 = .ok (.aload_n 0, 1) := by decide +kernel
theorem dX11_quarrels_29 : decode cX11_quarrels 29 = .ok (.getfield 7, 3) := by decide +kernel
theorem dX11_quarrels_32 : decode cX11_quarrels 32 = .ok (.bipush 102, 2) := by decide +kernel
theorem dX11_quarrels_34 : decode cX11_quarrels 34 = .ok (.iload_n 2, 1) := by decide +kernel
theorem dX11_quarrels_35 : decode cX11_quarrels 35 = .ok (.iadd, 1) := by decide +kernel
theorem dX11_quarrels_36 : decode cX11_quarrels 36 = .ok (.iaload, 1) := by decide +kernel
theorem dX11_quarrels_37 : decode cX11_quarrels 37 = .ok (.aload_n 0, 1) := by decide +kernel
theorem dX11_quarrels_38 : decode cX11_quarrels 38 = .ok (.getfield 7, 3) := by decide +kernel
theorem dX11_quarrels_41 : decode cX11_quarrels 41 = .ok (.bipush 102, 2) := by decide +kernel
theorem dX11_quarrels_43 : decode cX11_quarrels 43 = .ok (.iload_n 3, 1) := by decide +kernel
theorem dX11_quarrels_44 : decode cX11_quarrels 44 = .ok (.iadd, 1) := by decide +kernel
theorem dX11_quarrels_45 : decode cX11_quarrels 45 = .ok (.iaload, 1) := by decide +kernel
theorem dX11_quarrels_46 : decode cX11_quarrels 46 = .ok (.isub, 1) := by decide +kernel
theorem dX11_quarrels_47 : decode cX11_quarrels 47 = .ok (.istore 4, 2) := by decide +kernel
theorem dX11_quarrels_49 : decode cX11_quarrels 49 = .ok (.iload 4, 2) := by decide +kernel
theorem dX11_quarrels_51 : decode cX11_quarrels 51 = .ok (.ifCond .ge 8, 3) := by decide +kernel
theorem dX11_quarrels_54 : decode cX11_quarrels 54 = .ok (.iload 4, 2) := by decide +kernel
theorem dX11_quarrels_56 : decode cX11_quarrels 56 = .ok (.ineg, 1) := by decide +kernel
theorem dX11_quarrels_57 : decode cX11_quarrels 57 = .ok (.istore 4, 2) := by decide +kernel
theorem dX11_quarrels_59 : decode cX11_quarrels 59 = .ok (.iload 4, 2) := by decide +kernel
theorem dX11_quarrels_61 : decode cX11_quarrels 61 = .ok (.ifCond .eq 101, 3) := by decide +kernel
theorem dX11_quarrels_64 : decode cX11_quarrels 64 = .ok (.aload_n 0, 1) := by decide +kernel
theorem dX11_quarrels_65 : decode cX11_quarrels 65 = .ok (.getfield 7, 3) := by decide +kernel
theorem dX11_quarrels_68 : decode cX11_quarrels 68 = .ok (.sipush 228, 3) := by decide +kernel
theorem dX11_quarrels_71 : decode cX11_quarrels 71 = .ok (.iaload, 1) := by decide +kernel
theorem dX11_quarrels_72 : decode cX11_quarrels 72 = .ok (.iload 4, 2) := by decide +kernel
theorem dX11_quarrels_74 : decode cX11_quarrels 74 = .ok (.bipush 12, 2) := by decide +kernel
theorem dX11_quarrels_76 : decode cX11_quarrels 76 = .ok (.irem, 1) := by decide +kernel
theorem dX11_quarrels_77 : decode cX11_quarrels 77 = .ok (.ishr, 1) := by decide +kernel
theorem dX11_quarrels_78 : decode cX11_quarrels 78 = .ok (.iconst 1, 1) := by decide +kernel
theorem dX11_quarrels_79 : decode cX11_quarrels 79 = .ok (.iand, 1) := by decide +kernel
theorem dX11_quarrels_80 : decode cX11_quarrels 80 = .ok (.ifCond .ne 6, 3) := by decide +kernel
theorem dX11_quarrels_83 : decode cX11_quarrels 83 = .ok (.goto 79, 3) := by decide +kernel
theorem dX11_quarrels_86 : decode cX11_quarrels 86 = .ok (.aload_n 0, 1) := by decide +kernel
theorem dX11_quarrels_87 : decode cX11_quarrels 87 = .ok (.getfield 7, 3) := by decide +kernel
theorem dX11_quarrels_90 : decode cX11_quarrels 90 = .ok (.iconst 2, 1) := by decide +kernel
theorem dX11_quarrels_91 : decode cX11_quarrels 91 = .ok (.iload_n 3, 1) := by decide +kernel
theorem dX11_quarrels_92 : decode cX11_quarrels 92 = .ok (.iadd, 1) := by decide +kernel
theorem dX11_quarrels_93 : decode cX11_quarrels 93 = .ok (.iaload, 1) := by decide +kernel
theorem dX11_quarrels_94 : decode cX11_quarrels 94 = .ok (.istore 5, 2) := by decide +kernel
theorem dX11_quarrels_96 : decode cX11_quarrels 96 = .ok (.aload_n 0, 1) := by decide +kernel
theorem dX11_quarrels_97 : decode cX11_quarrels 97 = .ok (.getfield 7, 3) := by decide +kernel
theorem dX11_quarrels_100 : decode cX11_quarrels 100 = .ok (.iconst 2, 1) := by decide +kernel
theorem dX11_quarrels_101 : decode cX11_quarrels 101 = .ok (.iload_n 2, 1) := by decide +kernel
theorem dX11_quarrels_102 : decode cX11_quarrels 102 = .ok (.iadd, 1) := by decide +kernel
theorem dX11_quarrels_103 : decode cX11_quarrels 103 = .ok (.iaload, 1) := by decide +kernel
theorem dX11_quarrels_104 : decode cX11_quarrels 104 = .ok (.aload_n 0, 1) := by decide +kernel
theorem dX11_quarrels_105 : decode cX11_quarrels 105 = .ok (.iload_n 2, 1) := by decide +kernel
theorem dX11_quarrels_106 : decode cX11_quarrels 106 = .ok (.invokevirtual 149, 3) := by decide +kernel
theorem dX11_quarrels_109 : decode cX11_quarrels 109 = .ok (.iadd, 1) := by decide +kernel
theorem dX11_quarrels_110 : decode cX11_quarrels 110 = .ok (.istore 6, 2) := by decide +kernel
theorem dX11_quarrels_112 : decode cX11_quarrels 112 = .ok (.aload_n 0, 1) := by decide +kernel
theorem dX11_quarrels_113 : decode cX11_quarrels 113 = .ok (.getfield 7, 3) := by decide +kernel
theorem dX11_quarrels_116 : decode cX11_quarrels 116 = .ok (.iconst 2, 1) := by decide +kernel
theorem dX11_quarrels_117 : decode cX11_quarrels 117 = .ok (.iload_n 3, 1) := by decide +kernel
theorem dX11_quarrels_118 : decode cX11_quarrels 118 = .ok (.iadd, 1) := by decide +kernel
theorem dX11_quarrels_119 : decode cX11_quarrels 119 = .ok (.iaload, 1) := by decide +kernel
theorem dX11_quarrels_120 : decode cX11_quarrels 120 = .ok (.aload_n 0, 1) := by decide +kernel
theorem dX11_quarrels_121 : decode cX11_quarrels 121 = .ok (.iload_n 3, 1) := by decide +kernel
theorem dX11_quarrels_122 : decode cX11_quarrels 122 = .ok (.invokevirtual 149, 3) := by decide +kernel
theorem dX11_quarrels_125 : decode cX11_quarrels 125 = .ok (.iadd, 1) := by decide +kernel
theorem dX11_quarrels_126 : decode cX11_quarrels 126 = .ok (.iload 6, 2) := by decide +kernel
theorem dX11_quarrels_128 : decode cX11_quarrels 128 = .ok (.if_icmp .ge 19, 3) := by decide +kernel
theorem dX11_quarrels_131 : decode cX11_quarrels 131 = .ok (.aload_n 0, 1) := by decide +kernel
theorem dX11_quarrels_132 : decode cX11_quarrels 132 = .ok (.getfield 7, 3) := by decide +kernel
theorem dX11_quarrels_135 : decode cX11_quarrels 135 = .ok (.iconst 2, 1) := by decide +kernel
theorem dX11_quarrels_136 : decode cX11_quarrels 136 = .ok (.iload_n 3, 1) := by decide +kernel
theorem dX11_quarrels_137 : decode cX11_quarrels 137 = .ok (.iadd, 1) := by decide +kernel
theorem dX11_quarrels_138 : decode cX11_quarrels 138 = .ok (.iaload, 1) := by decide +kernel
theorem dX11_quarrels_139 : decode cX11_quarrels 139 = .ok (.aload_n 0, 1) := by decide +kernel
theorem dX11_quarrels_140 : decode cX11_quarrels 140 = .ok (.iload_n 3, 1) := by decide +kernel
theorem dX11_quarrels_141 : decode cX11_quarrels 141 = .ok (.invokevirtual 149, 3) := by decide +kernel
theorem dX11_quarrels_144 : decode cX11_quarrels 144 = .ok (.iadd, 1) := by decide +kernel
theorem dX11_quarrels_145 : decode cX11_quarrels 145 = .ok (.istore 6, 2) := by decide +kernel
theorem dX11_quarrels_147 : decode cX11_quarrels 147 = .ok (.iload 6, 2) := by decide +kernel
theorem dX11_quarrels_149 : decode cX11_quarrels 149 = .ok (.iload 5, 2) := by decide +kernel
theorem dX11_quarrels_151 : decode cX11_quarrels 151 = .ok (.if_icmp .le 11, 3) := by decide +kernel
theorem dX11_quarrels_154 : decode cX11_quarrels 154 = .ok (.iload_n 1, 1) := by decide +kernel
theorem dX11_quarrels_155 : decode cX11_quarrels 155 = .ok (.iload 6, 2) := by decide +kernel
theorem dX11_quarrels_157 : decode cX11_quarrels 157 = .ok (.iload 5, 2) := by decide +kernel
theorem dX11_quarrels_159 : decode cX11_quarrels 159 = .ok (.isub, 1) := by decide +kernel
theorem dX11_quarrels_160 : decode cX11_quarrels 160 = .ok (.iadd, 1) := by decide +kernel
theorem dX11_quarrels_161 : decode cX11_quarrels 161 = .ok (.istore_n 1, 1) := by decide +kernel
theorem dX11_quarrels_162 : decode cX11_quarrels 162 = .ok (.iinc 3 1, 3) := by decide +kernel
theorem dX11_quarrels_165 : decode cX11_quarrels 165 = .ok (.goto (-147), 3) := by decide +kernel
theorem dX11_quarrels_168 : decode cX11_quarrels 168 = .ok (.iinc 2 1, 3) := by decide +kernel
theorem dX11_quarrels_171 : decode cX11_quarrels 171 = .ok (.goto (-167), 3) := by decide +kernel
theorem dX11_quarrels_174 : decode cX11_quarrels 174 = .ok (.iload_n 1, 1) := by decide +kernel
theorem dX11_quarrels_175 : decode cX11_quarrels 175 = .ok (.ireturn, 1) := by decide +kernel
theorem dX11_drum_0 : decode cX11_drum 0 = .ok (.iload_n 1, 1) := by decide +kernel
theorem dX11_drum_1 : decode cX11_drum 1 = .ok (.iconst 1, 1) := by decide +kernel
theorem dX11_drum_2 : decode cX11_drum 2 = .ok (.if_icmp .lt 10, 3) := by decide +kernel
theorem dX11_drum_5 : decode cX11_drum 5 = .ok (.iload_n 1, 1) := by decide +kernel
theorem dX11_drum_6 : decode cX11_drum 6 = .ok (.sipush 2063, 3) := by decide +kernel
theorem dX11_drum_9 : decode cX11_drum 9 = .ok (.if_icmp .le 5, 3) := by decide +kernel
theorem dX11_drum_12 : decode cX11_drum 12 = .ok (.iconst 0, 1) := by decide +kernel
theorem dX11_drum_13 : decode cX11_drum 13 = .ok (.ireturn, 1) := by decide +kernel
theorem dX11_drum_14 : decode cX11_drum 14 = .ok (.aload_n 0, 1) := by decide +kernel
theorem dX11_drum_15 : decode cX11_drum 15 = .ok (.getfield 7, 3) := by decide +kernel
theorem dX11_drum_18 : decode cX11_drum 18 = .ok (.sipush 229, 3) := by decide +kernel
theorem dX11_drum_21 : decode cX11_drum 21 = .ok (.iload_n 1, 1) := by decide +kernel
theorem dX11_drum_22 : decode cX11_drum 22 = .ok (.iastore, 1) := by decide +kernel
theorem dX11_drum_23 : decode cX11_drum 23 = .ok (.aload_n 0, 1) := by decide +kernel
theorem dX11_drum_24 : decode cX11_drum 24 = .ok (.getfield 7, 3) := by decide +kernel
theorem dX11_drum_27 : decode cX11_drum 27 = .ok (.sipush 230, 3) := by decide +kernel
theorem dX11_drum_30 : decode cX11_drum 30 = .ok (.iconst (-1), 1) := by decide +kernel
theorem dX11_drum_31 : decode cX11_drum 31 = .ok (.iastore, 1) := by decide +kernel
theorem dX11_drum_32 : decode cX11_drum 32 = .ok (.iconst 0, 1) := by decide +kernel
theorem dX11_drum_33 : decode cX11_drum 33 = .ok (.istore_n 2, 1) := by decide +kernel
theorem dX11_drum_34 : decode cX11_drum 34 = .ok (.iload_n 2, 1) := by decide +kernel
theorem dX11_drum_35 : decode cX11_drum 35 = .ok (.sipush 2063, 3) := by decide +kernel
theorem dX11_drum_38 : decode cX11_drum 38 = .ok (.if_icmp .ge 20, 3) := by decide +kernel
theorem dX11_drum_41 : decode cX11_drum 41 = .ok (.aload_n 0, 1) := by decide +kernel
theorem dX11_drum_42 : decode cX11_drum 42 = .ok (.getfield 7, 3) := by decide +kernel
theorem dX11_drum_45 : decode cX11_drum 45 = .ok (.sipush 233, 3) := by decide +kernel
theorem dX11_drum_48 : decode cX11_drum 48 = .ok (.iload_n 2, 1) := by decide +kernel
theorem dX11_drum_49 : decode cX11_drum 49 = .ok (.iadd, 1) := by decide +kernel
theorem dX11_drum_50 : decode cX11_drum 50 = .ok (.iconst 0, 1) := by decide +kernel
theorem dX11_drum_51 : decode cX11_drum 51 = .ok (.iastore, 1) := by decide +kernel
theorem dX11_drum_52 : decode cX11_drum 52 = .ok (.iinc 2 1, 3) := by decide +kernel
theorem dX11_drum_55 : decode cX11_drum 55 = .ok (.goto (-21), 3) := by decide +kernel
theorem dX11_drum_58 : decode cX11_drum 58 = .ok (.iconst 1, 1) := by decide +kernel
theorem dX11_drum_59 : decode cX11_drum 59 = .ok (.ireturn, 1) := by decide +kernel
theorem dX11_stepOf_0 : decode cX11_stepOf 0 = .ok (.aload_n 0, 1) := by decide +kernel
theorem dX11_stepOf_1 : decode cX11_stepOf 1 = .ok (.getfield 7, 3) := by decide +kernel
theorem dX11_stepOf_4 : decode cX11_stepOf 4 = .ok (.iconst 2, 1) := by decide +kernel
theorem dX11_stepOf_5 : decode cX11_stepOf 5 = .ok (.iload_n 1, 1) := by decide +kernel
theorem dX11_stepOf_6 : decode cX11_stepOf 6 = .ok (.iadd, 1) := by decide +kernel
theorem dX11_stepOf_7 : decode cX11_stepOf 7 = .ok (.iaload, 1) := by decide +kernel
theorem dX11_stepOf_8 : decode cX11_stepOf 8 = .ok (.iload_n 2, 1) := by decide +kernel
theorem dX11_stepOf_9 : decode cX11_stepOf 9 = .ok (.iadd, 1) := by decide +kernel
theorem dX11_stepOf_10 : decode cX11_stepOf 10 = .ok (.aload_n 0, 1) := by decide +kernel
theorem dX11_stepOf_11 : decode cX11_stepOf 11 = .ok (.getfield 7, 3) := by decide +kernel
theorem dX11_stepOf_14 : decode cX11_stepOf 14 = .ok (.sipush 229, 3) := by decide +kernel
theorem dX11_stepOf_17 : decode cX11_stepOf 17 = .ok (.iaload, 1) := by decide +kernel
theorem dX11_stepOf_18 : decode cX11_stepOf 18 = .ok (.irem, 1) := by decide +kernel
theorem dX11_stepOf_19 : decode cX11_stepOf 19 = .ok (.ireturn, 1) := by decide +kernel
theorem dX11_change_0 : decode cX11_change 0 = .ok (.iconst 0, 1) := by decide +kernel
theorem dX11_change_1 : decode cX11_change 1 = .ok (.istore_n 1, 1) := by decide +kernel
theorem dX11_change_2 : decode cX11_change 2 = .ok (.iload_n 1, 1) := by decide +kernel
theorem dX11_change_3 : decode cX11_change 3 = .ok (.aload_n 0, 1) := by decide +kernel
theorem dX11_change_4 : decode cX11_change 4 = .ok (.getfield 7, 3) := by decide +kernel
theorem dX11_change_7 : decode cX11_change 7 = .ok (.iconst 0, 1) := by decide +kernel
theorem dX11_change_8 : decode cX11_change 8 = .ok (.iaload, 1) := by decide +kernel
theorem dX11_change_9 : decode cX11_change 9 = .ok (.if_icmp .ge 30, 3) := by decide +kernel
theorem dX11_change_12 : decode cX11_change 12 = .ok (.aload_n 0, 1) := by decide +kernel
theorem dX11_change_13 : decode cX11_change 13 = .ok (.getfield 7, 3) := by decide +kernel
theorem dX11_change_16 : decode cX11_change 16 = .ok (.iconst 2, 1) := by decide +kernel
theorem dX11_change_17 : decode cX11_change 17 = .ok (.iload_n 1, 1) := by decide +kernel
theorem dX11_change_18 : decode cX11_change 18 = .ok (.iadd, 1) := by decide +kernel
theorem dX11_change_19 : decode cX11_change 19 = .ok (.iaload, 1) := by decide +kernel
theorem dX11_change_20 : decode cX11_change 20 = .ok (.aload_n 0, 1) := by decide +kernel
theorem dX11_change_21 : decode cX11_change 21 = .ok (.getfield 7, 3) := by decide +kernel
theorem dX11_change_24 : decode cX11_change 24 = .ok (.sipush 229, 3) := by decide +kernel
theorem dX11_change_27 : decode cX11_change 27 = .ok (.iaload, 1) := by decide +kernel
theorem dX11_change_28 : decode cX11_change 28 = .ok (.if_icmp .lt 5, 3) := by decide +kernel
theorem dX11_change_31 : decode cX11_change 31 = .ok (.iconst (-1), 1) := by decide +kernel
theorem dX11_change_32 : decode cX11_change 32 = .ok (.ireturn, 1) := by decide +kernel
theorem dX11_change_33 : decode cX11_change 33 = .ok (.iinc 1 1, 3) := by decide +kernel
theorem dX11_change_36 : decode cX11_change 36 = .ok (.goto (-34), 3) := by decide +kernel
theorem dX11_change_39 : decode cX11_change 39 = .ok (.iconst 0, 1) := by decide +kernel
theorem dX11_change_40 : decode cX11_change 40 = .ok (.istore_n 1, 1) := by decide +kernel
theorem dX11_change_41 : decode cX11_change 41 = .ok (.iconst (-1), 1) := by decide +kernel
theorem dX11_change_42 : decode cX11_change 42 = .ok (.istore_n 2, 1) := by decide +kernel
theorem dX11_change_43 : decode cX11_change 43 = .ok (.iconst 0, 1) := by decide +kernel
theorem dX11_change_44 : decode cX11_change 44 = .ok (.istore_n 3, 1) := by decide +kernel
theorem dX11_change_45 : decode cX11_change 45 = .ok (.iload_n 3, 1) := by decide +kernel
theorem dX11_change_46 : decode cX11_change 46 = .ok (.aload_n 0, 1) := by decide +kernel
theorem dX11_change_47 : decode cX11_change 47 = .ok (.getfield 7, 3) := by decide +kernel
theorem dX11_change_50 : decode cX11_change 50 = .ok (.sipush 229, 3) := by decide +kernel
theorem dX11_change_53 : decode cX11_change 53 = .ok (.iaload, 1) := by decide +kernel
theorem dX11_change_54 : decode cX11_change 54 = .ok (.if_icmp .ge 82, 3) := by decide +kernel
theorem dX11_change_57 : decode cX11_change 57 = .ok (.iconst 0, 1) := by decide +kernel
theorem dX11_change_58 : decode cX11_change 58 = .ok (.istore 4, 2) := by decide +kernel
theorem dX11_change_60 : decode cX11_change 60 = .ok (.iconst 0, 1) := by decide +kernel
theorem dX11_change_61 : decode cX11_change 61 = .ok (.istore 5, 2) := by decide +kernel
theorem dX11_change_63 : decode cX11_change 63 = .ok (.iload 5, 2) := by decide +kernel
theorem dX11_change_65 : decode cX11_change 65 = .ok (.aload_n 0, 1) := by decide +kernel
theorem dX11_change_66 : decode cX11_change 66 = .ok (.getfield 7, 3) := by decide +kernel
theorem dX11_change_69 : decode cX11_change 69 = .ok (.iconst 0, 1) := by decide +kernel
theorem dX11_change_70 : decode cX11_change 70 = .ok (.iaload, 1) := by decide +kernel
theorem dX11_change_71 : decode cX11_change 71 = .ok (.if_icmp .ge 45, 3) := by decide +kernel
theorem dX11_change_74 : decode cX11_change 74 = .ok (.aload_n 0, 1) := by decide +kernel
theorem dX11_change_75 : decode cX11_change 75 = .ok (.getfield 7, 3) := by decide +kernel
theorem dX11_change_78 : decode cX11_change 78 = .ok (.sipush 233, 3) := by decide +kernel
theorem dX11_change_81 : decode cX11_change 81 = .ok (.aload_n 0, 1) := by decide +kernel
theorem dX11_change_82 : decode cX11_change 82 = .ok (.iload 5, 2) := by decide +kernel
theorem dX11_change_84 : decode cX11_change 84 = .ok (.iload_n 3, 1) := by decide +kernel
theorem dX11_change_85 : decode cX11_change 85 = .ok (.invokevirtual 152, 3) := by decide +kernel
theorem dX11_change_88 : decode cX11_change 88 = .ok (.iadd, 1) := by decide +kernel
theorem dX11_change_89 : decode cX11_change 89 = .ok (.iaload, 1) := by decide +kernel
theorem dX11_change_90 : decode cX11_change 90 = .ok (.aload_n 0, 1) := by decide +kernel
theorem dX11_change_91 : decode cX11_change 91 = .ok (.getfield 7, 3) := by decide +kernel
theorem dX11_change_94 : decode cX11_change 94 = .ok (.bipush 102, 2) := by decide +kernel
theorem dX11_change_96 : decode cX11_change 96 = .ok (.iload 5, 2) := by decide +kernel
theorem dX11_change_98 : decode cX11_change 98 = .ok (.iadd, 1) := by decide +kernel
theorem dX11_change_99 : decode cX11_change 99 = .ok (.iaload, 1) := by decide +kernel
theorem dX11_change_100 : decode cX11_change 100 = .ok (.ishr, 1) := by decide +kernel
theorem dX11_change_101 : decode cX11_change 101 = .ok (.iconst 1, 1) := by decide +kernel
theorem dX11_change_102 : decode cX11_change 102 = .ok (.iand, 1) := by decide +kernel
theorem dX11_change_103 : decode cX11_change 103 = .ok (.iconst 1, 1) := by decide +kernel
theorem dX11_change_104 : decode cX11_change 104 = .ok (.if_icmp .ne 6, 3) := by decide +kernel
theorem dX11_change_107 : decode cX11_change 107 = .ok (.iinc 4 1, 3) := by decide +kernel
theorem dX11_change_110 : decode cX11_change 110 = .ok (.iinc 5 1, 3) := by decide +kernel
theorem dX11_change_113 : decode cX11_change 113 = .ok (.goto (-50), 3) := by decide +kernel
theorem dX11_change_116 : decode cX11_change 116 = .ok (.iload 4, 2) := by decide +kernel
theorem dX11_change_118 : decode cX11_change 118 = .ok (.iload_n 2, 1) := by decide +kernel
theorem dX11_change_119 : decode cX11_change 119 = .ok (.if_icmp .gt 6, 3) := by decide +kernel
theorem dX11_change_122 : decode cX11_change 122 = .ok (.goto 8, 3) := by decide +kernel
theorem dX11_change_125 : decode cX11_change 125 = .ok (.iload 4, 2) := by decide +kernel
theorem dX11_change_127 : decode cX11_change 127 = .ok (.istore_n 2, 1) := by decide +kernel
theorem dX11_change_128 : decode cX11_change 128 = .ok (.iload_n 3, 1) := by decide +kernel
theorem dX11_change_129 : decode cX11_change 129 = .ok (.istore_n 1, 1) := by decide +kernel
theorem dX11_change_130 : decode cX11_change 130 = .ok (.iinc 3 1, 3) := by decide +kernel
theorem dX11_change_133 : decode cX11_change 133 = .ok (.goto (-88), 3) := by decide +kernel
theorem dX11_change_136 : decode cX11_change 136 = .ok (.iconst 0, 1) := by decide +kernel
theorem dX11_change_137 : decode cX11_change 137 = .ok (.istore_n 3, 1) := by decide +kernel
theorem dX11_change_138 : decode cX11_change 138 = .ok (.iload_n 3, 1) := by decide +kernel
theorem dX11_change_139 : decode cX11_change 139 = .ok (.aload_n 0, 1) := by decide +kernel
theorem dX11_change_140 : decode cX11_change 140 = .ok (.getfield 7, 3) := by decide +kernel
theorem dX11_change_143 : decode cX11_change 143 = .ok (.sipush 229, 3) := by decide +kernel
theorem dX11_change_146 : decode cX11_change 146 = .ok (.iaload, 1) := by decide +kernel
theorem dX11_change_147 : decode cX11_change 147 = .ok (.if_icmp .ge 20, 3) := by decide +kernel
theorem dX11_change_150 : decode cX11_change 150 = .ok (.aload_n 0, 1) := by decide +kernel
theorem dX11_change_151 : decode cX11_change 151 = .ok (.getfield 7, 3) := by decide +kernel
theorem dX11_change_154 : decode cX11_change 154 = .ok (.sipush 233, 3) := by decide +kernel
theorem dX11_change_157 : decode cX11_change 157 = .ok (.iload_n 3, 1) := by decide +kernel
theorem dX11_change_158 : decode cX11_change 158 = .ok (.iadd, 1) := by decide +kernel
theorem dX11_change_159 : decode cX11_change 159 = .ok (.iconst 0, 1) := by decide +kernel
theorem dX11_change_160 : decode cX11_change 160 = .ok (.iastore, 1) := by decide +kernel
theorem dX11_change_161 : decode cX11_change 161 = .ok (.iinc 3 1, 3) := by decide +kernel
theorem dX11_change_164 : decode cX11_change 164 = .ok (.goto (-26), 3) := by decide +kernel
theorem dX11_change_167 : decode cX11_change 167 = .ok (.iconst 0, 1) := by decide +kernel
theorem dX11_change_168 : decode cX11_change 168 = .ok (.istore_n 3, 1) := by decide +kernel
theorem dX11_change_169 : decode cX11_change 169 = .ok (.iload_n 3, 1) := by decide +kernel
theorem dX11_change_170 : decode cX11_change 170 = .ok (.aload_n 0, 1) := by decide +kernel
theorem dX11_change_171 : decode cX11_change 171 = .ok (.getfield 7, 3) := by decide +kernel
theorem dX11_change_174 : decode cX11_change 174 = .ok (.iconst 0, 1) := by decide +kernel
theorem dX11_change_175 : decode cX11_change 175 = .ok (.iaload, 1) := by decide +kernel
theorem dX11_change_176 : decode cX11_change 176 = .ok (.if_icmp .ge 38, 3) := by decide +kernel
theorem dX11_change_179 : decode cX11_change 179 = .ok (.aload_n 0, 1) := by decide +kernel
theorem dX11_change_180 : decode cX11_change 180 = .ok (.getfield 7, 3) := by decide +kernel
theorem dX11_change_183 : decode cX11_change 183 = .ok (.sipush 233, 3) := by decide +kernel
theorem dX11_change_186 : decode cX11_change 186 = .ok (.aload_n 0, 1) := by decide +kernel
theorem dX11_change_187 : decode cX11_change 187 = .ok (.iload_n 3, 1) := by decide +kernel
theorem dX11_change_188 : decode cX11_change 188 = .ok (.iload_n 1, 1) := by decide +kernel
theorem dX11_change_189 : decode cX11_change 189 = .ok (.invokevirtual 152, 3) := by decide +kernel
theorem dX11_change_192 : decode cX11_change 192 = .ok (.iadd, 1) := by decide +kernel
theorem dX11_change_193 : decode cX11_change 193 = .ok (.dup2, 1) := by decide +kernel
theorem dX11_change_194 : decode cX11_change 194 = .ok (.iaload, 1) := by decide +kernel
theorem dX11_change_195 : decode cX11_change 195 = .ok (.iconst 1, 1) := by decide +kernel
theorem dX11_change_196 : decode cX11_change 196 = .ok (.aload_n 0, 1) := by decide +kernel
theorem dX11_change_197 : decode cX11_change 197 = .ok (.getfield 7, 3) := by decide +kernel
theorem dX11_change_200 : decode cX11_change 200 = .ok (.bipush 102, 2) := by decide +kernel
theorem dX11_change_202 : decode cX11_change 202 = .ok (.iload_n 3, 1) := by decide +kernel
theorem dX11_change_203 : decode cX11_change 203 = .ok (.iadd, 1) := by decide +kernel
theorem dX11_change_204 : decode cX11_change 204 = .ok (.iaload, 1) := by decide +kernel
theorem dX11_change_205 : decode cX11_change 205 = .ok (.ishl, 1) := by decide +kernel
theorem dX11_change_206 : decode cX11_change 206 = .ok (.ior, 1) := by decide +kernel
theorem dX11_change_207 : decode cX11_change 207 = .ok (.iastore, 1) := by decide +kernel
theorem dX11_change_208 : decode cX11_change 208 = .ok (.iinc 3 1, 3) := by decide +kernel
theorem dX11_change_211 : decode cX11_change 211 = .ok (.goto (-42), 3) := by decide +kernel
theorem dX11_change_214 : decode cX11_change 214 = .ok (.aload_n 0, 1) := by decide +kernel
theorem dX11_change_215 : decode cX11_change 215 = .ok (.getfield 7, 3) := by decide +kernel
theorem dX11_change_218 : decode cX11_change 218 = .ok (.sipush 230, 3) := by decide +kernel
theorem dX11_change_221 : decode cX11_change 221 = .ok (.iload_n 1, 1) := by decide +kernel
theorem dX11_change_222 : decode cX11_change 222 = .ok (.iastore, 1) := by decide +kernel
theorem dX11_change_223 : decode cX11_change 223 = .ok (.aload_n 0, 1) := by decide +kernel
theorem dX11_change_224 : decode cX11_change 224 = .ok (.getfield 7, 3) := by decide +kernel
theorem dX11_change_227 : decode cX11_change 227 = .ok (.iconst 0, 1) := by decide +kernel
theorem dX11_change_228 : decode cX11_change 228 = .ok (.iaload, 1) := by decide +kernel
theorem dX11_change_229 : decode cX11_change 229 = .ok (.iload_n 2, 1) := by decide +kernel
theorem dX11_change_230 : decode cX11_change 230 = .ok (.isub, 1) := by decide +kernel
theorem dX11_change_231 : decode cX11_change 231 = .ok (.ireturn, 1) := by decide +kernel
theorem dX11_turn_0 : decode cX11_turn 0 = .ok (.aload_n 0, 1) := by decide +kernel
theorem dX11_turn_1 : decode cX11_turn 1 = .ok (.getfield 7, 3) := by decide +kernel
theorem dX11_turn_4 : decode cX11_turn 4 = .ok (.sipush 230, 3) := by decide +kernel
theorem dX11_turn_7 : decode cX11_turn 7 = .ok (.iaload, 1) := by decide +kernel
theorem dX11_turn_8 : decode cX11_turn 8 = .ok (.ireturn, 1) := by decide +kernel
theorem dX11_pin_0 : decode cX11_pin 0 = .ok (.iload_n 1, 1) := by decide +kernel
theorem dX11_pin_1 : decode cX11_pin 1 = .ok (.ifCond .lt 39, 3) := by decide +kernel
theorem dX11_pin_4 : decode cX11_pin 4 = .ok (.iload_n 1, 1) := by decide +kernel
theorem dX11_pin_5 : decode cX11_pin 5 = .ok (.aload_n 0, 1) := by decide +kernel
theorem dX11_pin_6 : decode cX11_pin 6 = .ok (.getfield 7, 3) := by decide +kernel
theorem dX11_pin_9 : decode cX11_pin 9 = .ok (.sipush 229, 3) := by decide +kernel
theorem dX11_pin_12 : decode cX11_pin 12 = .ok (.iaload, 1) := by decide +kernel
theorem dX11_pin_13 : decode cX11_pin 13 = .ok (.if_icmp .ge 27, 3) := by decide +kernel
theorem dX11_pin_16 : decode cX11_pin 16 = .ok (.iload_n 2, 1) := by decide +kernel
theorem dX11_pin_17 : decode cX11_pin 17 = .ok (.invokestatic 146, 3) := by decide +kernel
theorem dX11_pin_20 : decode cX11_pin 20 = .ok (.ifCond .eq 20, 3) := by decide +kernel
theorem dX11_pin_23 : decode cX11_pin 23 = .ok (.aload_n 0, 1) := by decide +kernel
theorem dX11_pin_24 : decode cX11_pin 24 = .ok (.getfield 7, 3) := by decide +kernel
theorem dX11_pin_27 : decode cX11_pin 27 = .ok (.sipush 233, 3) := by decide +kernel
theorem dX11_pin_30 : decode cX11_pin 30 = .ok (.iload_n 1, 1) := by decide +kernel
theorem dX11_pin_31 : decode cX11_pin 31 = .ok (.iadd, 1) := by decide +kernel
theorem dX11_pin_32 : decode cX11_pin 32 = .ok (.iaload, 1) := by decide +kernel
theorem dX11_pin_33 : decode cX11_pin 33 = .ok (.iload_n 2, 1) := by decide +kernel
theorem dX11_pin_34 : decode cX11_pin 34 = .ok (.ishr, 1) := by decide +kernel
theorem dX11_pin_35 : decode cX11_pin 35 = .ok (.iconst 1, 1) := by decide +kernel
theorem dX11_pin_36 : decode cX11_pin 36 = .ok (.iand, 1) := by decide +kernel
theorem dX11_pin_37 : decode cX11_pin 37 = .ok (.goto 4, 3) := by decide +kernel
theorem dX11_pin_40 : decode cX11_pin 40 = .ok (.iconst (-1), 1) := by decide +kernel
theorem dX11_pin_41 : decode cX11_pin 41 = .ok (.ireturn, 1) := by decide +kernel
theorem dX11_pins_0 : decode cX11_pins 0 = .ok (.iconst 0, 1) := by decide +kernel
theorem dX11_pins_1 : decode cX11_pins 1 = .ok (.istore_n 1, 1) := by decide +kernel
theorem dX11_pins_2 : decode cX11_pins 2 = .ok (.iconst 0, 1) := by decide +kernel
theorem dX11_pins_3 : decode cX11_pins 3 = .ok (.istore_n 2, 1) := by decide +kernel
theorem dX11_pins_4 : decode cX11_pins 4 = .ok (.iload_n 2, 1) := by decide +kernel
theorem dX11_pins_5 : decode cX11_pins 5 = .ok (.aload_n 0, 1) := by decide +kernel
theorem dX11_pins_6 : decode cX11_pins 6 = .ok (.getfield 7, 3) := by decide +kernel
theorem dX11_pins_9 : decode cX11_pins 9 = .ok (.sipush 229, 3) := by decide +kernel
theorem dX11_pins_12 : decode cX11_pins 12 = .ok (.iaload, 1) := by decide +kernel
theorem dX11_pins_13 : decode cX11_pins 13 = .ok (.if_icmp .ge 40, 3) := by decide +kernel
theorem dX11_pins_16 : decode cX11_pins 16 = .ok (.iconst 0, 1) := by decide +kernel
theorem dX11_pins_17 : decode cX11_pins 17 = .ok (.istore_n 3, 1) := by decide +kernel
theorem dX11_pins_18 : decode cX11_pins 18 = .ok (.iload_n 3, 1) := by decide +kernel
theorem dX11_pins_19 : decode cX11_pins 19 = .ok (.bipush 24, 2) := by decide +kernel
theorem dX11_pins_21 : decode cX11_pins 21 = .ok (.if_icmp .ge 26, 3) := by decide +kernel
theorem dX11_pins_24 : decode cX11_pins 24 = .ok (.iload_n 1, 1) := by decide +kernel
theorem dX11_pins_25 : decode cX11_pins 25 = .ok (.aload_n 0, 1) := by decide +kernel
theorem dX11_pins_26 : decode cX11_pins 26 = .ok (.getfield 7, 3) := by decide +kernel
theorem dX11_pins_29 : decode cX11_pins 29 = .ok (.sipush 233, 3) := by decide +kernel
theorem dX11_pins_32 : decode cX11_pins 32 = .ok (.iload_n 2, 1) := by decide +kernel
theorem dX11_pins_33 : decode cX11_pins 33 = .ok (.iadd, 1) := by decide +kernel
theorem dX11_pins_34 : decode cX11_pins 34 = .ok (.iaload, 1) := by decide +kernel
theorem dX11_pins_35 : decode cX11_pins 35 = .ok (.iload_n 3, 1) := by decide +kernel
theorem dX11_pins_36 : decode cX11_pins 36 = .ok (.ishr, 1) := by decide +kernel
theorem dX11_pins_37 : decode cX11_pins 37 = .ok (.iconst 1, 1) := by decide +kernel
theorem dX11_pins_38 : decode cX11_pins 38 = .ok (.iand, 1) := by decide +kernel
theorem dX11_pins_39 : decode cX11_pins 39 = .ok (.iadd, 1) := by decide +kernel
theorem dX11_pins_40 : decode cX11_pins 40 = .ok (.istore_n 1, 1) := by decide +kernel
theorem dX11_pins_41 : decode cX11_pins 41 = .ok (.iinc 3 1, 3) := by decide +kernel
theorem dX11_pins_44 : decode cX11_pins 44 = .ok (.goto (-26), 3) := by decide +kernel
theorem dX11_pins_47 : decode cX11_pins 47 = .ok (.iinc 2 1, 3) := by decide +kernel
theorem dX11_pins_50 : decode cX11_pins 50 = .ok (.goto (-46), 3) := by decide +kernel
theorem dX11_pins_53 : decode cX11_pins 53 = .ok (.iload_n 1, 1) := by decide +kernel
theorem dX11_pins_54 : decode cX11_pins 54 = .ok (.ireturn, 1) := by decide +kernel
theorem dX11_play_0 : decode cX11_play 0 = .ok (.iload_n 1, 1) := by decide +kernel
theorem dX11_play_1 : decode cX11_play 1 = .ok (.ifCond .eq 10, 3) := by decide +kernel
theorem dX11_play_4 : decode cX11_play 4 = .ok (.iload_n 1, 1) := by decide +kernel
theorem dX11_play_5 : decode cX11_play 5 = .ok (.iconst 1, 1) := by decide +kernel
theorem dX11_play_6 : decode cX11_play 6 = .ok (.if_icmp .eq 5, 3) := by decide +kernel
theorem dX11_play_9 : decode cX11_play 9 = .ok (.iconst (-1), 1) := by decide +kernel
theorem dX11_play_10 : decode cX11_play 10 = .ok (.ireturn, 1) := by decide +kernel
theorem dX11_play_11 : decode cX11_play 11 = .ok (.iconst 0, 1) := by decide +kernel
theorem dX11_play_12 : decode cX11_play 12 = .ok (.istore_n 2, 1) := by decide +kernel
theorem dX11_play_13 : decode cX11_play 13 = .ok (.iload_n 1, 1) := by decide +kernel
theorem dX11_play_14 : decode cX11_play 14 = .ok (.ifCond .ne 62, 3) := by decide +kernel
theorem dX11_play_17 : decode cX11_play 17 = .ok (.aload_n 0, 1) := by decide +kernel
theorem dX11_play_18 : decode cX11_play 18 = .ok (.invokevirtual 143, 3) := by decide +kernel
theorem dX11_play_21 : decode cX11_play 21 = .ok (.pop, 1) := by decide +kernel
theorem dX11_play_22 : decode cX11_play 22 = .ok (.iconst 0, 1) := by decide +kernel
theorem dX11_play_23 : decode cX11_play 23 = .ok (.istore_n 3, 1) := by decide +kernel
theorem dX11_play_24 : decode cX11_play 24 = .ok (.iload_n 3, 1) := by decide +kernel
theorem dX11_play_25 : decode cX11_play 25 = .ok (.aload_n 0, 1) := by decide +kernel
theorem dX11_play_26 : decode cX11_play 26 = .ok (.getfield 7, 3) := by decide +kernel
theorem dX11_play_29 : decode cX11_play 29 = .ok (.iconst 0, 1) := by decide +kernel
theorem dX11_play_30 : decode cX11_play 30 = .ok (.iaload, 1) := by decide +kernel
theorem dX11_play_31 : decode cX11_play 31 = .ok (.if_icmp .ge 43, 3) := by decide +kernel
theorem dX11_play_34 : decode cX11_play 34 = .ok (.aload_n 0, 1) := by decide +kernel
theorem dX11_play_35 : decode cX11_play 35 = .ok (.getfield 46, 3) := by decide +kernel
theorem dX11_play_38 : decode cX11_play 38 = .ok (.iload_n 3, 1) := by decide +kernel
theorem dX11_play_39 : decode cX11_play 39 = .ok (.iaload, 1) := by decide +kernel
theorem dX11_play_40 : decode cX11_play 40 = .ok (.iconst 2, 1) := by decide +kernel
theorem dX11_play_41 : decode cX11_play 41 = .ok (.if_icmp .ne 6, 3) := by decide +kernel
theorem dX11_play_44 : decode cX11_play 44 = .ok (.goto 24, 3) := by decide +kernel
theorem dX11_play_47 : decode cX11_play 47 = .ok (.aload_n 0, 1) := by decide +kernel
theorem dX11_play_48 : decode cX11_play 48 = .ok (.getfield 13, 3) := by decide +kernel
theorem dX11_play_51 : decode cX11_play 51 = .ok (.aload_n 0, 1) := by decide +kernel
theorem dX11_play_52 : decode cX11_play 52 = .ok (.getfield 7, 3) := by decide +kernel
theorem dX11_play_55 : decode cX11_play 55 = .ok (.bipush 102, 2) := by decide +kernel
theorem dX11_play_57 : decode cX11_play 57 = .ok (.iload_n 3, 1) := by decide +kernel
theorem dX11_play_58 : decode cX11_play 58 = .ok (.iadd, 1) := by decide +kernel
theorem dX11_play_59 : decode cX11_play 59 = .ok (.iaload, 1) := by decide +kernel
theorem dX11_play_60 : decode cX11_play 60 = .ok (.dup2, 1) := by decide +kernel
theorem dX11_play_61 : decode cX11_play 61 = .ok (.laload, 1) := by decide +kernel
theorem dX11_play_62 : decode cX11_play 62 = .ok (.lconst 1, 1) := by decide +kernel
theorem dX11_play_63 : decode cX11_play 63 = .ok (.ladd, 1) := by decide +kernel
theorem dX11_play_64 : decode cX11_play 64 = .ok (.lastore, 1) := by decide +kernel
theorem dX11_play_65 : decode cX11_play 65 = .ok (.iinc 2 1, 3) := by decide +kernel
theorem dX11_play_68 : decode cX11_play 68 = .ok (.iinc 3 1, 3) := by decide +kernel
theorem dX11_play_71 : decode cX11_play 71 = .ok (.goto (-47), 3) := by decide +kernel
theorem dX11_play_74 : decode cX11_play 74 = .ok (.iload_n 2, 1) := by decide +kernel
theorem dX11_play_75 : decode cX11_play 75 = .ok (.ireturn, 1) := by decide +kernel
theorem dX11_play_76 : decode cX11_play 76 = .ok (.iconst 0, 1) := by decide +kernel
theorem dX11_play_77 : decode cX11_play 77 = .ok (.istore_n 3, 1) := by decide +kernel
theorem dX11_play_78 : decode cX11_play 78 = .ok (.iload_n 3, 1) := by decide +kernel
theorem dX11_play_79 : decode cX11_play 79 = .ok (.aload_n 0, 1) := by decide +kernel
theorem dX11_play_80 : decode cX11_play 80 = .ok (.getfield 7, 3) := by decide +kernel
theorem dX11_play_83 : decode cX11_play 83 = .ok (.sipush 229, 3) := by decide +kernel
theorem dX11_play_86 : decode cX11_play 86 = .ok (.iaload, 1) := by decide +kernel
theorem dX11_play_87 : decode cX11_play 87 = .ok (.if_icmp .ge 60, 3) := by decide +kernel
theorem dX11_play_90 : decode cX11_play 90 = .ok (.iconst 0, 1) := by decide +kernel
theorem dX11_play_91 : decode cX11_play 91 = .ok (.istore 4, 2) := by decide +kernel
theorem dX11_play_93 : decode cX11_play 93 = .ok (.iload 4, 2) := by decide +kernel
theorem dX11_play_95 : decode cX11_play 95 = .ok (.bipush 24, 2) := by decide +kernel
theorem dX11_play_97 : decode cX11_play 97 = .ok (.if_icmp .ge 44, 3) := by decide +kernel
theorem dX11_play_100 : decode cX11_play 100 = .ok (.aload_n 0, 1) := by decide +kernel
theorem dX11_play_101 : decode cX11_play 101 = .ok (.getfield 7, 3) := by decide +kernel
theorem dX11_play_104 : decode cX11_play 104 = .ok (.sipush 233, 3) := by decide +kernel
theorem dX11_play_107 : decode cX11_play 107 = .ok (.iload_n 3, 1) := by decide +kernel
theorem dX11_play_108 : decode cX11_play 108 = .ok (.iadd, 1) := by decide +kernel
theorem dX11_play_109 : decode cX11_play 109 = .ok (.iaload, 1) := by decide +kernel
theorem dX11_play_110 : decode cX11_play 110 = .ok (.iload 4, 2) := by decide +kernel
theorem dX11_play_112 : decode cX11_play 112 = .ok (.ishr, 1) := by decide +kernel
theorem dX11_play_113 : decode cX11_play 113 = .ok (.iconst 1, 1) := by decide +kernel
theorem dX11_play_114 : decode cX11_play 114 = .ok (.iand, 1) := by decide +kernel
theorem dX11_play_115 : decode cX11_play 115 = .ok (.ifCond .ne 6, 3) := by decide +kernel
theorem dX11_play_118 : decode cX11_play 118 = .ok (.goto 17, 3) := by decide +kernel
theorem dX11_play_121 : decode cX11_play 121 = .ok (.aload_n 0, 1) := by decide +kernel
theorem dX11_play_122 : decode cX11_play 122 = .ok (.getfield 13, 3) := by decide +kernel
theorem dX11_play_125 : decode cX11_play 125 = .ok (.iload 4, 2) := by decide +kernel
theorem dX11_play_127 : decode cX11_play 127 = .ok (.dup2, 1) := by decide +kernel
theorem dX11_play_128 : decode cX11_play 128 = .ok (.laload, 1) := by decide +kernel
theorem dX11_play_129 : decode cX11_play 129 = .ok (.lconst 1, 1) := by decide +kernel
theorem dX11_play_130 : decode cX11_play 130 = .ok (.ladd, 1) := by decide +kernel
theorem dX11_play_131 : decode cX11_play 131 = .ok (.lastore, 1) := by decide +kernel
theorem dX11_play_132 : decode cX11_play 132 = .ok (.iinc 2 1, 3) := by decide +kernel
theorem dX11_play_135 : decode cX11_play 135 = .ok (.iinc 4 1, 3) := by decide +kernel
theorem dX11_play_138 : decode cX11_play 138 = .ok (.goto (-45), 3) := by decide +kernel
theorem dX11_play_141 : decode cX11_play 141 = .ok (.iinc 3 1, 3) := by decide +kernel
theorem dX11_play_144 : decode cX11_play 144 = .ok (.goto (-66), 3) := by decide +kernel
theorem dX11_play_147 : decode cX11_play 147 = .ok (.iload_n 2, 1) := by decide +kernel
theorem dX11_play_148 : decode cX11_play 148 = .ok (.ireturn, 1) := by decide +kernel
theorem dX11_strikes_0 : decode cX11_strikes 0 = .ok (.iload_n 1, 1) := by decide +kernel
theorem dX11_strikes_1 : decode cX11_strikes 1 = .ok (.invokestatic 146, 3) := by decide +kernel
theorem dX11_strikes_4 : decode cX11_strikes 4 = .ok (.ifCond .eq 12, 3) := by decide +kernel
theorem dX11_strikes_7 : decode cX11_strikes 7 = .ok (.aload_n 0, 1) := by decide +kernel
theorem dX11_strikes_8 : decode cX11_strikes 8 = .ok (.getfield 13, 3) := by decide +kernel
theorem dX11_strikes_11 : decode cX11_strikes 11 = .ok (.iload_n 1, 1) := by decide +kernel
theorem dX11_strikes_12 : decode cX11_strikes 12 = .ok (.laload, 1) := by decide +kernel
theorem dX11_strikes_13 : decode cX11_strikes 13 = .ok (.goto 6, 3) := by decide +kernel
theorem dX11_strikes_16 : decode cX11_strikes 16 = .ok (.ldc2_w 155, 3) := by decide +kernel
theorem dX11_strikes_19 : decode cX11_strikes 19 = .ok (.lreturn, 1) := by decide +kernel
theorem dX11_mend_0 : decode cX11_mend 0 = .ok (.iload_n 1, 1) := by decide +kernel
theorem dX11_mend_1 : decode cX11_mend 1 = .ok (.invokestatic 146, 3) := by decide +kernel
theorem dX11_mend_4 : decode cX11_mend 4 = .ok (.ifCond .ne 7, 3) := by decide +kernel
theorem dX11_mend_7 : decode cX11_mend 7 = .ok (.ldc2_w 155, 3) := by decide +kernel
theorem dX11_mend_10 : decode cX11_mend 10 = .ok (.lreturn, 1) := by decide +kernel
theorem dX11_mend_11 : decode cX11_mend 11 = .ok (.aload_n 0, 1) := by decide +kernel
theorem dX11_mend_12 : decode cX11_mend 12 = .ok (.getfield 13, 3) := by decide +kernel
theorem dX11_mend_15 : decode cX11_mend 15 = .ok (.iload_n 1, 1) := by decide +kernel
theorem dX11_mend_16 : decode cX11_mend 16 = .ok (.laload, 1) := by decide +kernel
theorem dX11_mend_17 : decode cX11_mend 17 = .ok (.lstore_n 2, 1) := by decide +kernel
theorem dX11_mend_18 : decode cX11_mend 18 = .ok (.aload_n 0, 1) := by decide +kernel
theorem dX11_mend_19 : decode cX11_mend 19 = .ok (.getfield 13, 3) := by decide +kernel
theorem dX11_mend_22 : decode cX11_mend 22 = .ok (.iload_n 1, 1) := by decide +kernel
theorem dX11_mend_23 : decode cX11_mend 23 = .ok (.lconst 0, 1) := by decide +kernel
theorem dX11_mend_24 : decode cX11_mend 24 = .ok (.lastore, 1) := by decide +kernel
theorem dX11_mend_25 : decode cX11_mend 25 = .ok (.lload_n 2, 1) := by decide +kernel
theorem dX11_mend_26 : decode cX11_mend 26 = .ok (.lreturn, 1) := by decide +kernel
theorem dX11_worn_0 : decode cX11_worn 0 = .ok (.iload_n 1, 1) := by decide +kernel
theorem dX11_worn_1 : decode cX11_worn 1 = .ok (.iconst 1, 1) := by decide +kernel
theorem dX11_worn_2 : decode cX11_worn 2 = .ok (.if_icmp .ge 5, 3) := by decide +kernel
theorem dX11_worn_5 : decode cX11_worn 5 = .ok (.iconst (-1), 1) := by decide +kernel
theorem dX11_worn_6 : decode cX11_worn 6 = .ok (.ireturn, 1) := by decide +kernel
theorem dX11_worn_7 : decode cX11_worn 7 = .ok (.iconst 0, 1) := by decide +kernel
theorem dX11_worn_8 : decode cX11_worn 8 = .ok (.istore_n 2, 1) := by decide +kernel
theorem dX11_worn_9 : decode cX11_worn 9 = .ok (.iconst 0, 1) := by decide +kernel
theorem dX11_worn_10 : decode cX11_worn 10 = .ok (.istore_n 3, 1) := by decide +kernel
theorem dX11_worn_11 : decode cX11_worn 11 = .ok (.iload_n 3, 1) := by decide +kernel
theorem dX11_worn_12 : decode cX11_worn 12 = .ok (.bipush 24, 2) := by decide +kernel
theorem dX11_worn_14 : decode cX11_worn 14 = .ok (.if_icmp .ge 24, 3) := by decide +kernel
theorem dX11_worn_17 : decode cX11_worn 17 = .ok (.aload_n 0, 1) := by decide +kernel
theorem dX11_worn_18 : decode cX11_worn 18 = .ok (.getfield 13, 3) := by decide +kernel
theorem dX11_worn_21 : decode cX11_worn 21 = .ok (.iload_n 3, 1) := by decide +kernel
theorem dX11_worn_22 : decode cX11_worn 22 = .ok (.laload, 1) := by decide +kernel
theorem dX11_worn_23 : decode cX11_worn 23 = .ok (.iload_n 1, 1) := by decide +kernel
theorem dX11_worn_24 : decode cX11_worn 24 = .ok (.i2l, 1) := by decide +kernel
theorem dX11_worn_25 : decode cX11_worn 25 = .ok (.lcmp, 1) := by decide +kernel
theorem dX11_worn_26 : decode cX11_worn 26 = .ok (.ifCond .lt 6, 3) := by decide +kernel
theorem dX11_worn_29 : decode cX11_worn 29 = .ok (.iinc 2 1, 3) := by decide +kernel
theorem dX11_worn_32 : decode cX11_worn 32 = .ok (.iinc 3 1, 3) := by decide +kernel
theorem dX11_worn_35 : decode cX11_worn 35 = .ok (.goto (-24), 3) := by decide +kernel
theorem dX11_worn_38 : decode cX11_worn 38 = .ok (.iload_n 2, 1) := by decide +kernel
theorem dX11_worn_39 : decode cX11_worn 39 = .ok (.ireturn, 1) := by decide +kernel
theorem dJ6_bitCount_0f7a4_0 : decode cJ6_bitCount_0f7a4 0 = .ok (.iload_n 0, 1) := by decide +kernel
theorem dJ6_bitCount_0f7a4_1 : decode cJ6_bitCount_0f7a4 1 = .ok (.iload_n 0, 1) := by decide +kernel
theorem dJ6_bitCount_0f7a4_2 : decode cJ6_bitCount_0f7a4 2 = .ok (.iconst 1, 1) := by decide +kernel
theorem dJ6_bitCount_0f7a4_3 : decode cJ6_bitCount_0f7a4 3 = .ok (.iushr, 1) := by decide +kernel
theorem dJ6_bitCount_0f7a4_4 : decode cJ6_bitCount_0f7a4 4 = .ok (.ldc_w 265, 3) := by decide +kernel
theorem dJ6_bitCount_0f7a4_7 : decode cJ6_bitCount_0f7a4 7 = .ok (.iand, 1) := by decide +kernel
theorem dJ6_bitCount_0f7a4_8 : decode cJ6_bitCount_0f7a4 8 = .ok (.isub, 1) := by decide +kernel
theorem dJ6_bitCount_0f7a4_9 : decode cJ6_bitCount_0f7a4 9 = .ok (.istore_n 0, 1) := by decide +kernel
theorem dJ6_bitCount_0f7a4_10 : decode cJ6_bitCount_0f7a4 10 = .ok (.iload_n 0, 1) := by decide +kernel
theorem dJ6_bitCount_0f7a4_11 : decode cJ6_bitCount_0f7a4 11 = .ok (.ldc_w 266, 3) := by decide +kernel
theorem dJ6_bitCount_0f7a4_14 : decode cJ6_bitCount_0f7a4 14 = .ok (.iand, 1) := by decide +kernel
theorem dJ6_bitCount_0f7a4_15 : decode cJ6_bitCount_0f7a4 15 = .ok (.iload_n 0, 1) := by decide +kernel
theorem dJ6_bitCount_0f7a4_16 : decode cJ6_bitCount_0f7a4 16 = .ok (.iconst 2, 1) := by decide +kernel
theorem dJ6_bitCount_0f7a4_17 : decode cJ6_bitCount_0f7a4 17 = .ok (.iushr, 1) := by decide +kernel
theorem dJ6_bitCount_0f7a4_18 : decode cJ6_bitCount_0f7a4 18 = .ok (.ldc_w 266, 3) := by decide +kernel
theorem dJ6_bitCount_0f7a4_21 : decode cJ6_bitCount_0f7a4 21 = .ok (.iand, 1) := by decide +kernel
theorem dJ6_bitCount_0f7a4_22 : decode cJ6_bitCount_0f7a4 22 = .ok (.iadd, 1) := by decide +kernel
theorem dJ6_bitCount_0f7a4_23 : decode cJ6_bitCount_0f7a4 23 = .ok (.istore_n 0, 1) := by decide +kernel
theorem dJ6_bitCount_0f7a4_24 : decode cJ6_bitCount_0f7a4 24 = .ok (.iload_n 0, 1) := by decide +kernel
theorem dJ6_bitCount_0f7a4_25 : decode cJ6_bitCount_0f7a4 25 = .ok (.iload_n 0, 1) := by decide +kernel
theorem dJ6_bitCount_0f7a4_26 : decode cJ6_bitCount_0f7a4 26 = .ok (.iconst 4, 1) := by decide +kernel
theorem dJ6_bitCount_0f7a4_27 : decode cJ6_bitCount_0f7a4 27 = .ok (.iushr, 1) := by decide +kernel
theorem dJ6_bitCount_0f7a4_28 : decode cJ6_bitCount_0f7a4 28 = .ok (.iadd, 1) := by decide +kernel
theorem dJ6_bitCount_0f7a4_29 : decode cJ6_bitCount_0f7a4 29 = .ok (.ldc_w 267, 3) := by decide +kernel
theorem dJ6_bitCount_0f7a4_32 : decode cJ6_bitCount_0f7a4 32 = .ok (.iand, 1) := by decide +kernel
theorem dJ6_bitCount_0f7a4_33 : decode cJ6_bitCount_0f7a4 33 = .ok (.istore_n 0, 1) := by decide +kernel
theorem dJ6_bitCount_0f7a4_34 : decode cJ6_bitCount_0f7a4 34 = .ok (.iload_n 0, 1) := by decide +kernel
theorem dJ6_bitCount_0f7a4_35 : decode cJ6_bitCount_0f7a4 35 = .ok (.iload_n 0, 1) := by decide +kernel
theorem dJ6_bitCount_0f7a4_36 : decode cJ6_bitCount_0f7a4 36 = .ok (.bipush 8, 2) := by decide +kernel
theorem dJ6_bitCount_0f7a4_38 : decode cJ6_bitCount_0f7a4 38 = .ok (.iushr, 1) := by decide +kernel
theorem dJ6_bitCount_0f7a4_39 : decode cJ6_bitCount_0f7a4 39 = .ok (.iadd, 1) := by decide +kernel
theorem dJ6_bitCount_0f7a4_40 : decode cJ6_bitCount_0f7a4 40 = .ok (.istore_n 0, 1) := by decide +kernel
theorem dJ6_bitCount_0f7a4_41 : decode cJ6_bitCount_0f7a4 41 = .ok (.iload_n 0, 1) := by decide +kernel
theorem dJ6_bitCount_0f7a4_42 : decode cJ6_bitCount_0f7a4 42 = .ok (.iload_n 0, 1) := by decide +kernel
theorem dJ6_bitCount_0f7a4_43 : decode cJ6_bitCount_0f7a4 43 = .ok (.bipush 16, 2) := by decide +kernel
theorem dJ6_bitCount_0f7a4_45 : decode cJ6_bitCount_0f7a4 45 = .ok (.iushr, 1) := by decide +kernel
theorem dJ6_bitCount_0f7a4_46 : decode cJ6_bitCount_0f7a4 46 = .ok (.iadd, 1) := by decide +kernel
theorem dJ6_bitCount_0f7a4_47 : decode cJ6_bitCount_0f7a4 47 = .ok (.istore_n 0, 1) := by decide +kernel
theorem dJ6_bitCount_0f7a4_48 : decode cJ6_bitCount_0f7a4 48 = .ok (.iload_n 0, 1) := by decide +kernel
theorem dJ6_bitCount_0f7a4_49 : decode cJ6_bitCount_0f7a4 49 = .ok (.bipush 63, 2) := by decide +kernel
theorem dJ6_bitCount_0f7a4_51 : decode cJ6_bitCount_0f7a4 51 = .ok (.iand, 1) := by decide +kernel
theorem dJ6_bitCount_0f7a4_52 : decode cJ6_bitCount_0f7a4 52 = .ok (.ireturn, 1) := by decide +kernel
theorem dJ9_abs_0f7a4_0 : decode cJ9_abs_0f7a4 0 = .ok (.iload_n 0, 1) := by decide +kernel
theorem dJ9_abs_0f7a4_1 : decode cJ9_abs_0f7a4 1 = .ok (.ifCond .ge 8, 3) := by decide +kernel
theorem dJ9_abs_0f7a4_4 : decode cJ9_abs_0f7a4 4 = .ok (.iload_n 0, 1) := by decide +kernel
theorem dJ9_abs_0f7a4_5 : decode cJ9_abs_0f7a4 5 = .ok (.ineg, 1) := by decide +kernel
theorem dJ9_abs_0f7a4_6 : decode cJ9_abs_0f7a4 6 = .ok (.goto 4, 3) := by decide +kernel
theorem dJ9_abs_0f7a4_9 : decode cJ9_abs_0f7a4 9 = .ok (.iload_n 0, 1) := by decide +kernel
theorem dJ9_abs_0f7a4_10 : decode cJ9_abs_0f7a4 10 = .ok (.ireturn, 1) := by decide +kernel
theorem dJ9_max_7cf53_0 : decode cJ9_max_7cf53 0 = .ok (.iload_n 0, 1) := by decide +kernel
theorem dJ9_max_7cf53_1 : decode cJ9_max_7cf53 1 = .ok (.iload_n 1, 1) := by decide +kernel
theorem dJ9_max_7cf53_2 : decode cJ9_max_7cf53 2 = .ok (.if_icmp .lt 7, 3) := by decide +kernel
theorem dJ9_max_7cf53_5 : decode cJ9_max_7cf53 5 = .ok (.iload_n 0, 1) := by decide +kernel
theorem dJ9_max_7cf53_6 : decode cJ9_max_7cf53 6 = .ok (.goto 4, 3) := by decide +kernel
theorem dJ9_max_7cf53_9 : decode cJ9_max_7cf53 9 = .ok (.iload_n 1, 1) := by decide +kernel
theorem dJ9_max_7cf53_10 : decode cJ9_max_7cf53 10 = .ok (.ireturn, 1) := by decide +kernel
theorem dJ9_min_7cf53_0 : decode cJ9_min_7cf53 0 = .ok (.iload_n 0, 1) := by decide +kernel
theorem dJ9_min_7cf53_1 : decode cJ9_min_7cf53 1 = .ok (.iload_n 1, 1) := by decide +kernel
theorem dJ9_min_7cf53_2 : decode cJ9_min_7cf53 2 = .ok (.if_icmp .gt 7, 3) := by decide +kernel
theorem dJ9_min_7cf53_5 : decode cJ9_min_7cf53 5 = .ok (.iload_n 0, 1) := by decide +kernel
theorem dJ9_min_7cf53_6 : decode cJ9_min_7cf53 6 = .ok (.goto 4, 3) := by decide +kernel
theorem dJ9_min_7cf53_9 : decode cJ9_min_7cf53 9 = .ok (.iload_n 1, 1) := by decide +kernel
theorem dJ9_min_7cf53_10 : decode cJ9_min_7cf53 10 = .ok (.ireturn, 1) := by decide +kernel
theorem dL_law_0 : decode cL_law 0 = .ok (.new 7, 3) := by decide +kernel
theorem dL_law_3 : decode cL_law 3 = .ok (.dup, 1) := by decide +kernel
theorem dL_law_4 : decode cL_law 4 = .ok (.invokespecial 9, 3) := by decide +kernel
theorem dL_law_7 : decode cL_law 7 = .ok (.astore_n 1, 1) := by decide +kernel
theorem dL_law_8 : decode cL_law 8 = .ok (.new 10, 3) := by decide +kernel
theorem dL_law_11 : decode cL_law 11 = .ok (.dup, 1) := by decide +kernel
theorem dL_law_12 : decode cL_law 12 = .ok (.invokespecial 12, 3) := by decide +kernel
theorem dL_law_15 : decode cL_law 15 = .ok (.astore_n 2, 1) := by decide +kernel
theorem dL_law_16 : decode cL_law 16 = .ok (.iconst 0, 1) := by decide +kernel
theorem dL_law_17 : decode cL_law 17 = .ok (.istore_n 3, 1) := by decide +kernel
theorem dL_law_18 : decode cL_law 18 = .ok (.iload_n 3, 1) := by decide +kernel
theorem dL_law_19 : decode cL_law 19 = .ok (.aload_n 0, 1) := by decide +kernel
theorem dL_law_20 : decode cL_law 20 = .ok (.arraylength, 1) := by decide +kernel
theorem dL_law_21 : decode cL_law 21 = .ok (.bipush 6, 2) := by decide +kernel
theorem dL_law_23 : decode cL_law 23 = .ok (.isub, 1) := by decide +kernel
theorem dL_law_24 : decode cL_law 24 = .ok (.if_icmp .gt 744, 3) := by decide +kernel
theorem dL_law_27 : decode cL_law 27 = .ok (.aload_n 0, 1) := by decide +kernel
theorem dL_law_28 : decode cL_law 28 = .ok (.iload_n 3, 1) := by decide +kernel
theorem dL_law_29 : decode cL_law 29 = .ok (.iaload, 1) := by decide +kernel
theorem dL_law_30 : decode cL_law 30 = .ok (.bipush 31, 2) := by decide +kernel
theorem dL_law_32 : decode cL_law 32 = .ok (.iand, 1) := by decide +kernel
theorem dL_law_33 : decode cL_law 33 = .ok (.tableswitch 729 0 25 #[119, 182, 205, 218, 241, 274, 297, 330, 343, 356, 379, 402, 435, 458, 471, 494, 517, 530, 543, 576, 589, 612, 636, 660, 683, 706], 119) := by decide +kernel
theorem dL_law_152 : decode cL_law 152 = .ok (.aload_n 1, 1) := by decide +kernel
theorem dL_law_153 : decode cL_law 153 = .ok (.aload_n 0, 1) := by decide +kernel
theorem dL_law_154 : decode cL_law 154 = .ok (.iload_n 3, 1) := by decide +kernel
theorem dL_law_155 : decode cL_law 155 = .ok (.iconst 1, 1) := by decide +kernel
theorem dL_law_156 : decode cL_law 156 = .ok (.iadd, 1) := by decide +kernel
theorem dL_law_157 : decode cL_law 157 = .ok (.iaload, 1) := by decide +kernel
theorem dL_law_158 : decode cL_law 158 = .ok (.aload_n 0, 1) := by decide +kernel
theorem dL_law_159 : decode cL_law 159 = .ok (.iload_n 3, 1) := by decide +kernel
theorem dL_law_160 : decode cL_law 160 = .ok (.iconst 2, 1) := by decide +kernel
theorem dL_law_161 : decode cL_law 161 = .ok (.iadd, 1) := by decide +kernel
theorem dL_law_162 : decode cL_law 162 = .ok (.iaload, 1) := by decide +kernel
theorem dL_law_163 : decode cL_law 163 = .ok (.aload_n 0, 1) := by decide +kernel
theorem dL_law_164 : decode cL_law 164 = .ok (.iload_n 3, 1) := by decide +kernel
theorem dL_law_165 : decode cL_law 165 = .ok (.iconst 3, 1) := by decide +kernel
theorem dL_law_166 : decode cL_law 166 = .ok (.iadd, 1) := by decide +kernel
theorem dL_law_167 : decode cL_law 167 = .ok (.iaload, 1) := by decide +kernel
theorem dL_law_168 : decode cL_law 168 = .ok (.aload_n 0, 1) := by decide +kernel
theorem dL_law_169 : decode cL_law 169 = .ok (.iload_n 3, 1) := by decide +kernel
theorem dL_law_170 : decode cL_law 170 = .ok (.iconst 4, 1) := by decide +kernel
theorem dL_law_171 : decode cL_law 171 = .ok (.iadd, 1) := by decide +kernel
theorem dL_law_172 : decode cL_law 172 = .ok (.iaload, 1) := by decide +kernel
theorem dL_law_173 : decode cL_law 173 = .ok (.aload_n 0, 1) := by decide +kernel
theorem dL_law_174 : decode cL_law 174 = .ok (.iload_n 3, 1) := by decide +kernel
theorem dL_law_175 : decode cL_law 175 = .ok (.iconst 5, 1) := by decide +kernel
theorem dL_law_176 : decode cL_law 176 = .ok (.iadd, 1) := by decide +kernel
theorem dL_law_177 : decode cL_law 177 = .ok (.iaload, 1) := by decide +kernel
theorem dL_law_178 : decode cL_law 178 = .ok (.invokevirtual 13, 3) := by decide +kernel
theorem dL_law_181 : decode cL_law 181 = .ok (.aload_n 2, 1) := by decide +kernel
theorem dL_law_182 : decode cL_law 182 = .ok (.aload_n 0, 1) := by decide +kernel
theorem dL_law_183 : decode cL_law 183 = .ok (.iload_n 3, 1) := by decide +kernel
theorem dL_law_184 : decode cL_law 184 = .ok (.iconst 1, 1) := by decide +kernel
theorem dL_law_185 : decode cL_law 185 = .ok (.iadd, 1) := by decide +kernel
theorem dL_law_186 : decode cL_law 186 = .ok (.iaload, 1) := by decide +kernel
theorem dL_law_187 : decode cL_law 187 = .ok (.aload_n 0, 1) := by decide +kernel
theorem dL_law_188 : decode cL_law 188 = .ok (.iload_n 3, 1) := by decide +kernel
theorem dL_law_189 : decode cL_law 189 = .ok (.iconst 2, 1) := by decide +kernel
theorem dL_law_190 : decode cL_law 190 = .ok (.iadd, 1) := by decide +kernel
theorem dL_law_191 : decode cL_law 191 = .ok (.iaload, 1) := by decide +kernel
theorem dL_law_192 : decode cL_law 192 = .ok (.aload_n 0, 1) := by decide +kernel
theorem dL_law_193 : decode cL_law 193 = .ok (.iload_n 3, 1) := by decide +kernel
theorem dL_law_194 : decode cL_law 194 = .ok (.iconst 3, 1) := by decide +kernel
theorem dL_law_195 : decode cL_law 195 = .ok (.iadd, 1) := by decide +kernel
theorem dL_law_196 : decode cL_law 196 = .ok (.iaload, 1) := by decide +kernel
theorem dL_law_197 : decode cL_law 197 = .ok (.aload_n 0, 1) := by decide +kernel
theorem dL_law_198 : decode cL_law 198 = .ok (.iload_n 3, 1) := by decide +kernel
theorem dL_law_199 : decode cL_law 199 = .ok (.iconst 4, 1) := by decide +kernel
theorem dL_law_200 : decode cL_law 200 = .ok (.iadd, 1) := by decide +kernel
theorem dL_law_201 : decode cL_law 201 = .ok (.iaload, 1) := by decide +kernel
theorem dL_law_202 : decode cL_law 202 = .ok (.aload_n 0, 1) := by decide +kernel
theorem dL_law_203 : decode cL_law 203 = .ok (.iload_n 3, 1) := by decide +kernel
theorem dL_law_204 : decode cL_law 204 = .ok (.iconst 5, 1) := by decide +kernel
theorem dL_law_205 : decode cL_law 205 = .ok (.iadd, 1) := by decide +kernel
theorem dL_law_206 : decode cL_law 206 = .ok (.iaload, 1) := by decide +kernel
theorem dL_law_207 : decode cL_law 207 = .ok (.invokevirtual 17, 3) := by decide +kernel
theorem dL_law_210 : decode cL_law 210 = .ok (.if_icmp .eq 552, 3) := by decide +kernel
theorem dL_law_213 : decode cL_law 213 = .ok (.iconst 0, 1) := by decide +kernel
theorem dL_law_214 : decode cL_law 214 = .ok (.ireturn, 1) := by decide +kernel
theorem dL_law_215 : decode cL_law 215 = .ok (.aload_n 1, 1) := by decide +kernel
theorem dL_law_216 : decode cL_law 216 = .ok (.aload_n 0, 1) := by decide +kernel
theorem dL_law_217 : decode cL_law 217 = .ok (.iload_n 3, 1) := by decide +kernel
theorem dL_law_218 : decode cL_law 218 = .ok (.iconst 1, 1) := by decide +kernel
theorem dL_law_219 : decode cL_law 219 = .ok (.iadd, 1) := by decide +kernel
theorem dL_law_220 : decode cL_law 220 = .ok (.iaload, 1) := by decide +kernel
theorem dL_law_221 : decode cL_law 221 = .ok (.invokevirtual 18, 3) := by decide +kernel
theorem dL_law_224 : decode cL_law 224 = .ok (.aload_n 2, 1) := by decide +kernel
theorem dL_law_225 : decode cL_law 225 = .ok (.aload_n 0, 1) := by decide +kernel
theorem dL_law_226 : decode cL_law 226 = .ok (.iload_n 3, 1) := by decide +kernel
theorem dL_law_227 : decode cL_law 227 = .ok (.iconst 1, 1) := by decide +kernel
theorem dL_law_228 : decode cL_law 228 = .ok (.iadd, 1) := by decide +kernel
theorem dL_law_229 : decode cL_law 229 = .ok (.iaload, 1) := by decide +kernel
theorem dL_law_230 : decode cL_law 230 = .ok (.invokevirtual 22, 3) := by decide +kernel
theorem dL_law_233 : decode cL_law 233 = .ok (.if_icmp .eq 529, 3) := by decide +kernel
theorem dL_law_236 : decode cL_law 236 = .ok (.iconst 0, 1) := by decide +kernel
theorem dL_law_237 : decode cL_law 237 = .ok (.ireturn, 1) := by decide +kernel
theorem dL_law_238 : decode cL_law 238 = .ok (.aload_n 1, 1) := by decide +kernel
theorem dL_law_239 : decode cL_law 239 = .ok (.invokevirtual 23, 3) := by decide +kernel
theorem dL_law_242 : decode cL_law 242 = .ok (.aload_n 2, 1) := by decide +kernel
theorem dL_law_243 : decode cL_law 243 = .ok (.invokevirtual 27, 3) := by decide +kernel
theorem dL_law_246 : decode cL_law 246 = .ok (.if_icmp .eq 516, 3) := by decide +kernel
theorem dL_law_249 : decode cL_law 249 = .ok (.iconst 0, 1) := by decide +kernel
theorem dL_law_250 : decode cL_law 250 = .ok (.ireturn, 1) := by decide +kernel
theorem dL_law_251 : decode cL_law 251 = .ok (.aload_n 1, 1) := by decide +kernel
theorem dL_law_252 : decode cL_law 252 = .ok (.aload_n 0, 1) := by decide +kernel
theorem dL_law_253 : decode cL_law 253 = .ok (.iload_n 3, 1) := by decide +kernel
theorem dL_law_254 : decode cL_law 254 = .ok (.iconst 1, 1) := by decide +kernel
theorem dL_law_255 : decode cL_law 255 = .ok (.iadd, 1) := by decide +kernel
theorem dL_law_256 : decode cL_law 256 = .ok (.iaload, 1) := by decide +kernel
theorem dL_law_257 : decode cL_law 257 = .ok (.invokevirtual 28, 3) := by decide +kernel
theorem dL_law_260 : decode cL_law 260 = .ok (.aload_n 2, 1) := by decide +kernel
theorem dL_law_261 : decode cL_law 261 = .ok (.aload_n 0, 1) := by decide +kernel
theorem dL_law_262 : decode cL_law 262 = .ok (.iload_n 3, 1) := by decide +kernel
theorem dL_law_263 : decode cL_law 263 = .ok (.iconst 1, 1) := by decide +kernel
theorem dL_law_264 : decode cL_law 264 = .ok (.iadd, 1) := by decide +kernel
theorem dL_law_265 : decode cL_law 265 = .ok (.iaload, 1) := by decide +kernel
theorem dL_law_266 : decode cL_law 266 = .ok (.invokevirtual 32, 3) := by decide +kernel
theorem dL_law_269 : decode cL_law 269 = .ok (.if_icmp .eq 493, 3) := by decide +kernel
theorem dL_law_272 : decode cL_law 272 = .ok (.iconst 0, 1) := by decide +kernel
theorem dL_law_273 : decode cL_law 273 = .ok (.ireturn, 1) := by decide +kernel
theorem dL_law_274 : decode cL_law 274 = .ok (.aload_n 1, 1) := by decide +kernel
theorem dL_law_275 : decode cL_law 275 = .ok (.aload_n 0, 1) := by decide +kernel
theorem dL_law_276 : decode cL_law 276 = .ok (.iload_n 3, 1) := by decide +kernel
theorem dL_law_277 : decode cL_law 277 = .ok (.iconst 1, 1) := by decide +kernel
theorem dL_law_278 : decode cL_law 278 = .ok (.iadd, 1) := by decide +kernel
theorem dL_law_279 : decode cL_law 279 = .ok (.iaload, 1) := by decide +kernel
theorem dL_law_280 : decode cL_law 280 = .ok (.aload_n 0, 1) := by decide +kernel
theorem dL_law_281 : decode cL_law 281 = .ok (.iload_n 3, 1) := by decide +kernel
theorem dL_law_282 : decode cL_law 282 = .ok (.iconst 2, 1) := by decide +kernel
theorem dL_law_283 : decode cL_law 283 = .ok (.iadd, 1) := by decide +kernel
theorem dL_law_284 : decode cL_law 284 = .ok (.iaload, 1) := by decide +kernel
theorem dL_law_285 : decode cL_law 285 = .ok (.invokevirtual 33, 3) := by decide +kernel
theorem dL_law_288 : decode cL_law 288 = .ok (.aload_n 2, 1) := by decide +kernel
theorem dL_law_289 : decode cL_law 289 = .ok (.aload_n 0, 1) := by decide +kernel
theorem dL_law_290 : decode cL_law 290 = .ok (.iload_n 3, 1) := by decide +kernel
theorem dL_law_291 : decode cL_law 291 = .ok (.iconst 1, 1) := by decide +kernel
theorem dL_law_292 : decode cL_law 292 = .ok (.iadd, 1) := by decide +kernel
theorem dL_law_293 : decode cL_law 293 = .ok (.iaload, 1) := by decide +kernel
theorem dL_law_294 : decode cL_law 294 = .ok (.aload_n 0, 1) := by decide +kernel
theorem dL_law_295 : decode cL_law 295 = .ok (.iload_n 3, 1) := by decide +kernel
theorem dL_law_296 : decode cL_law 296 = .ok (.iconst 2, 1) := by decide +kernel
theorem dL_law_297 : decode cL_law 297 = .ok (.iadd, 1) := by decide +kernel
theorem dL_law_298 : decode cL_law 298 = .ok (.iaload, 1) := by decide +kernel
theorem dL_law_299 : decode cL_law 299 = .ok (.invokevirtual 37, 3) := by decide +kernel
theorem dL_law_302 : decode cL_law 302 = .ok (.if_icmp .eq 460, 3) := by decide +kernel
theorem dL_law_305 : decode cL_law 305 = .ok (.iconst 0, 1) := by decide +kernel
theorem dL_law_306 : decode cL_law 306 = .ok (.ireturn, 1) := by decide +kernel
theorem dL_law_307 : decode cL_law 307 = .ok (.aload_n 1, 1) := by decide +kernel
theorem dL_law_308 : decode cL_law 308 = .ok (.aload_n 0, 1) := by decide +kernel
theorem dL_law_309 : decode cL_law 309 = .ok (.iload_n 3, 1) := by decide +kernel
theorem dL_law_310 : decode cL_law 310 = .ok (.iconst 1, 1) := by decide +kernel
theorem dL_law_311 : decode cL_law 311 = .ok (.iadd, 1) := by decide +kernel
theorem dL_law_312 : decode cL_law 312 = .ok (.iaload, 1) := by decide +kernel
theorem dL_law_313 : decode cL_law 313 = .ok (.invokevirtual 38, 3) := by decide +kernel
theorem dL_law_316 : decode cL_law 316 = .ok (.aload_n 2, 1) := by decide +kernel
theorem dL_law_317 : decode cL_law 317 = .ok (.aload_n 0, 1) := by decide +kernel
theorem dL_law_318 : decode cL_law 318 = .ok (.iload_n 3, 1) := by decide +kernel
theorem dL_law_319 : decode cL_law 319 = .ok (.iconst 1, 1) := by decide +kernel
theorem dL_law_320 : decode cL_law 320 = .ok (.iadd, 1) := by decide +kernel
theorem dL_law_321 : decode cL_law 321 = .ok (.iaload, 1) := by decide +kernel
theorem dL_law_322 : decode cL_law 322 = .ok (.invokevirtual 41, 3) := by decide +kernel
theorem dL_law_325 : decode cL_law 325 = .ok (.if_icmp .eq 437, 3) := by decide +kernel
theorem dL_law_328 : decode cL_law 328 = .ok (.iconst 0, 1) := by decide +kernel
theorem dL_law_329 : decode cL_law 329 = .ok (.ireturn, 1) := by decide +kernel
theorem dL_law_330 : decode cL_law 330 = .ok (.aload_n 1, 1) := by decide +kernel
theorem dL_law_331 : decode cL_law 331 = .ok (.aload_n 0, 1) := by decide +kernel
theorem dL_law_332 : decode cL_law 332 = .ok (.iload_n 3, 1) := by decide +kernel
theorem dL_law_333 : decode cL_law 333 = .ok (.iconst 1, 1) := by decide +kernel
theorem dL_law_334 : decode cL_law 334 = .ok (.iadd, 1) := by decide +kernel
theorem dL_law_335 : decode cL_law 335 = .ok (.iaload, 1) := by decide +kernel
theorem dL_law_336 : decode cL_law 336 = .ok (.aload_n 0, 1) := by decide +kernel
theorem dL_law_337 : decode cL_law 337 = .ok (.iload_n 3, 1) := by decide +kernel
theorem dL_law_338 : decode cL_law 338 = .ok (.iconst 2, 1) := by decide +kernel
theorem dL_law_339 : decode cL_law 339 = .ok (.iadd, 1) := by decide +kernel
theorem dL_law_340 : decode cL_law 340 = .ok (.iaload, 1) := by decide +kernel
theorem dL_law_341 : decode cL_law 341 = .ok (.invokevirtual 42, 3) := by decide +kernel
theorem dL_law_344 : decode cL_law 344 = .ok (.aload_n 2, 1) := by decide +kernel
theorem dL_law_345 : decode cL_law 345 = .ok (.aload_n 0, 1) := by decide +kernel
theorem dL_law_346 : decode cL_law 346 = .ok (.iload_n 3, 1) := by decide +kernel
theorem dL_law_347 : decode cL_law 347 = .ok (.iconst 1, 1) := by decide +kernel
theorem dL_law_348 : decode cL_law 348 = .ok (.iadd, 1) := by decide +kernel
theorem dL_law_349 : decode cL_law 349 = .ok (.iaload, 1) := by decide +kernel
theorem dL_law_350 : decode cL_law 350 = .ok (.aload_n 0, 1) := by decide +kernel
theorem dL_law_351 : decode cL_law 351 = .ok (.iload_n 3, 1) := by decide +kernel
theorem dL_law_352 : decode cL_law 352 = .ok (.iconst 2, 1) := by decide +kernel
theorem dL_law_353 : decode cL_law 353 = .ok (.iadd, 1) := by decide +kernel
theorem dL_law_354 : decode cL_law 354 = .ok (.iaload, 1) := by decide +kernel
theorem dL_law_355 : decode cL_law 355 = .ok (.invokevirtual 46, 3) := by decide +kernel
theorem dL_law_358 : decode cL_law 358 = .ok (.if_icmp .eq 404, 3) := by decide +kernel
theorem dL_law_361 : decode cL_law 361 = .ok (.iconst 0, 1) := by decide +kernel
theorem dL_law_362 : decode cL_law 362 = .ok (.ireturn, 1) := by decide +kernel
theorem dL_law_363 : decode cL_law 363 = .ok (.aload_n 1, 1) := by decide +kernel
theorem dL_law_364 : decode cL_law 364 = .ok (.invokevirtual 47, 3) := by decide +kernel
theorem dL_law_367 : decode cL_law 367 = .ok (.aload_n 2, 1) := by decide +kernel
theorem dL_law_368 : decode cL_law 368 = .ok (.invokevirtual 50, 3) := by decide +kernel
theorem dL_law_371 : decode cL_law 371 = .ok (.if_icmp .eq 391, 3) := by decide +kernel
theorem dL_law_374 : decode cL_law 374 = .ok (.iconst 0, 1) := by decide +kernel
theorem dL_law_375 : decode cL_law 375 = .ok (.ireturn, 1) := by decide +kernel
theorem dL_law_376 : decode cL_law 376 = .ok (.aload_n 1, 1) := by decide +kernel
theorem dL_law_377 : decode cL_law 377 = .ok (.invokevirtual 51, 3) := by decide +kernel
theorem dL_law_380 : decode cL_law 380 = .ok (.aload_n 2, 1) := by decide +kernel
theorem dL_law_381 : decode cL_law 381 = .ok (.invokevirtual 54, 3) := by decide +kernel
theorem dL_law_384 : decode cL_law 384 = .ok (.if_icmp .eq 378, 3) := by decide +kernel
theorem dL_law_387 : decode cL_law 387 = .ok (.iconst 0, 1) := by decide +kernel
theorem dL_law_388 : decode cL_law 388 = .ok (.ireturn, 1) := by decide +kernel
theorem dL_law_389 : decode cL_law 389 = .ok (.aload_n 1, 1) := by decide +kernel
theorem dL_law_390 : decode cL_law 390 = .ok (.aload_n 0, 1) := by decide +kernel
theorem dL_law_391 : decode cL_law 391 = .ok (.iload_n 3, 1) := by decide +kernel
theorem dL_law_392 : decode cL_law 392 = .ok (.iconst 1, 1) := by decide +kernel
theorem dL_law_393 : decode cL_law 393 = .ok (.iadd, 1) := by decide +kernel
theorem dL_law_394 : decode cL_law 394 = .ok (.iaload, 1) := by decide +kernel
theorem dL_law_395 : decode cL_law 395 = .ok (.invokevirtual 55, 3) := by decide +kernel
theorem dL_law_398 : decode cL_law 398 = .ok (.aload_n 2, 1) := by decide +kernel
theorem dL_law_399 : decode cL_law 399 = .ok (.aload_n 0, 1) := by decide +kernel
theorem dL_law_400 : decode cL_law 400 = .ok (.iload_n 3, 1) := by decide +kernel
theorem dL_law_401 : decode cL_law 401 = .ok (.iconst 1, 1) := by decide +kernel
theorem dL_law_402 : decode cL_law 402 = .ok (.iadd, 1) := by decide +kernel
theorem dL_law_403 : decode cL_law 403 = .ok (.iaload, 1) := by decide +kernel
theorem dL_law_404 : decode cL_law 404 = .ok (.invokevirtual 58, 3) := by decide +kernel
theorem dL_law_407 : decode cL_law 407 = .ok (.if_icmp .eq 355, 3) := by decide +kernel
theorem dL_law_410 : decode cL_law 410 = .ok (.iconst 0, 1) := by decide +kernel
theorem dL_law_411 : decode cL_law 411 = .ok (.ireturn, 1) := by decide +kernel
theorem dL_law_412 : decode cL_law 412 = .ok (.aload_n 1, 1) := by decide +kernel
theorem dL_law_413 : decode cL_law 413 = .ok (.aload_n 0, 1) := by decide +kernel
theorem dL_law_414 : decode cL_law 414 = .ok (.iload_n 3, 1) := by decide +kernel
theorem dL_law_415 : decode cL_law 415 = .ok (.iconst 1, 1) := by decide +kernel
theorem dL_law_416 : decode cL_law 416 = .ok (.iadd, 1) := by decide +kernel
theorem dL_law_417 : decode cL_law 417 = .ok (.iaload, 1) := by decide +kernel
theorem dL_law_418 : decode cL_law 418 = .ok (.invokevirtual 59, 3) := by decide +kernel
theorem dL_law_421 : decode cL_law 421 = .ok (.aload_n 2, 1) := by decide +kernel
theorem dL_law_422 : decode cL_law 422 = .ok (.aload_n 0, 1) := by decide +kernel
theorem dL_law_423 : decode cL_law 423 = .ok (.iload_n 3, 1) := by decide +kernel
theorem dL_law_424 : decode cL_law 424 = .ok (.iconst 1, 1) := by decide +kernel
theorem dL_law_425 : decode cL_law 425 = .ok (.iadd, 1) := by decide +kernel
theorem dL_law_426 : decode cL_law 426 = .ok (.iaload, 1) := by decide +kernel
theorem dL_law_427 : decode cL_law 427 = .ok (.invokevirtual 62, 3) := by decide +kernel
theorem dL_law_430 : decode cL_law 430 = .ok (.if_icmp .eq 332, 3) := by decide +kernel
theorem dL_law_433 : decode cL_law 433 = .ok (.iconst 0, 1) := by decide +kernel
theorem dL_law_434 : decode cL_law 434 = .ok (.ireturn, 1) := by decide +kernel
theorem dL_law_435 : decode cL_law 435 = .ok (.aload_n 1, 1) := by decide +kernel
theorem dL_law_436 : decode cL_law 436 = .ok (.aload_n 0, 1) := by decide +kernel
theorem dL_law_437 : decode cL_law 437 = .ok (.iload_n 3, 1) := by decide +kernel
theorem dL_law_438 : decode cL_law 438 = .ok (.iconst 1, 1) := by decide +kernel
theorem dL_law_439 : decode cL_law 439 = .ok (.iadd, 1) := by decide +kernel
theorem dL_law_440 : decode cL_law 440 = .ok (.iaload, 1) := by decide +kernel
theorem dL_law_441 : decode cL_law 441 = .ok (.aload_n 0, 1) := by decide +kernel
theorem dL_law_442 : decode cL_law 442 = .ok (.iload_n 3, 1) := by decide +kernel
theorem dL_law_443 : decode cL_law 443 = .ok (.iconst 2, 1) := by decide +kernel
theorem dL_law_444 : decode cL_law 444 = .ok (.iadd, 1) := by decide +kernel
theorem dL_law_445 : decode cL_law 445 = .ok (.iaload, 1) := by decide +kernel
theorem dL_law_446 : decode cL_law 446 = .ok (.invokevirtual 63, 3) := by decide +kernel
theorem dL_law_449 : decode cL_law 449 = .ok (.aload_n 2, 1) := by decide +kernel
theorem dL_law_450 : decode cL_law 450 = .ok (.aload_n 0, 1) := by decide +kernel
theorem dL_law_451 : decode cL_law 451 = .ok (.iload_n 3, 1) := by decide +kernel
theorem dL_law_452 : decode cL_law 452 = .ok (.iconst 1, 1) := by decide +kernel
theorem dL_law_453 : decode cL_law 453 = .ok (.iadd, 1) := by decide +kernel
theorem dL_law_454 : decode cL_law 454 = .ok (.iaload, 1) := by decide +kernel
theorem dL_law_455 : decode cL_law 455 = .ok (.aload_n 0, 1) := by decide +kernel
theorem dL_law_456 : decode cL_law 456 = .ok (.iload_n 3, 1) := by decide +kernel
theorem dL_law_457 : decode cL_law 457 = .ok (.iconst 2, 1) := by decide +kernel
theorem dL_law_458 : decode cL_law 458 = .ok (.iadd, 1) := by decide +kernel
theorem dL_law_459 : decode cL_law 459 = .ok (.iaload, 1) := by decide +kernel
theorem dL_law_460 : decode cL_law 460 = .ok (.invokevirtual 66, 3) := by decide +kernel
theorem dL_law_463 : decode cL_law 463 = .ok (.if_icmp .eq 299, 3) := by decide +kernel
theorem dL_law_466 : decode cL_law 466 = .ok (.iconst 0, 1) := by decide +kernel
theorem dL_law_467 : decode cL_law 467 = .ok (.ireturn, 1) := by decide +kernel
theorem dL_law_468 : decode cL_law 468 = .ok (.aload_n 1, 1) := by decide +kernel
theorem dL_law_469 : decode cL_law 469 = .ok (.aload_n 0, 1) := by decide +kernel
theorem dL_law_470 : decode cL_law 470 = .ok (.iload_n 3, 1) := by decide +kernel
theorem dL_law_471 : decode cL_law 471 = .ok (.iconst 1, 1) := by decide +kernel
theorem dL_law_472 : decode cL_law 472 = .ok (.iadd, 1) := by decide +kernel
theorem dL_law_473 : decode cL_law 473 = .ok (.iaload, 1) := by decide +kernel
theorem dL_law_474 : decode cL_law 474 = .ok (.invokevirtual 67, 3) := by decide +kernel
theorem dL_law_477 : decode cL_law 477 = .ok (.aload_n 2, 1) := by decide +kernel
theorem dL_law_478 : decode cL_law 478 = .ok (.aload_n 0, 1) := by decide +kernel
theorem dL_law_479 : decode cL_law 479 = .ok (.iload_n 3, 1) := by decide +kernel
theorem dL_law_480 : decode cL_law 480 = .ok (.iconst 1, 1) := by decide +kernel
theorem dL_law_481 : decode cL_law 481 = .ok (.iadd, 1) := by decide +kernel
theorem dL_law_482 : decode cL_law 482 = .ok (.iaload, 1) := by decide +kernel
theorem dL_law_483 : decode cL_law 483 = .ok (.invokevirtual 70, 3) := by decide +kernel
theorem dL_law_486 : decode cL_law 486 = .ok (.if_icmp .eq 276, 3) := by decide +kernel
theorem dL_law_489 : decode cL_law 489 = .ok (.iconst 0, 1) := by decide +kernel
theorem dL_law_490 : decode cL_law 490 = .ok (.ireturn, 1) := by decide +kernel
theorem dL_law_491 : decode cL_law 491 = .ok (.aload_n 1, 1) := by decide +kernel
theorem dL_law_492 : decode cL_law 492 = .ok (.invokevirtual 71, 3) := by decide +kernel
theorem dL_law_495 : decode cL_law 495 = .ok (.aload_n 2, 1) := by decide +kernel
theorem dL_law_496 : decode cL_law 496 = .ok (.invokevirtual 74, 3) := by decide +kernel
theorem dL_law_499 : decode cL_law 499 = .ok (.if_icmp .eq 263, 3) := by decide +kernel
theorem dL_law_502 : decode cL_law 502 = .ok (.iconst 0, 1) := by decide +kernel
theorem dL_law_503 : decode cL_law 503 = .ok (.ireturn, 1) := by decide +kernel
theorem dL_law_504 : decode cL_law 504 = .ok (.aload_n 1, 1) := by decide +kernel
theorem dL_law_505 : decode cL_law 505 = .ok (.aload_n 0, 1) := by decide +kernel
theorem dL_law_506 : decode cL_law 506 = .ok (.iload_n 3, 1) := by decide +kernel
theorem dL_law_507 : decode cL_law 507 = .ok (.iconst 1, 1) := by decide +kernel
theorem dL_law_508 : decode cL_law 508 = .ok (.iadd, 1) := by decide +kernel
theorem dL_law_509 : decode cL_law 509 = .ok (.iaload, 1) := by decide +kernel
theorem dL_law_510 : decode cL_law 510 = .ok (.invokevirtual 75, 3) := by decide +kernel
theorem dL_law_513 : decode cL_law 513 = .ok (.aload_n 2, 1) := by decide +kernel
theorem dL_law_514 : decode cL_law 514 = .ok (.aload_n 0, 1) := by decide +kernel
theorem dL_law_515 : decode cL_law 515 = .ok (.iload_n 3, 1) := by decide +kernel
theorem dL_law_516 : decode cL_law 516 = .ok (.iconst 1, 1) := by decide +kernel
theorem dL_law_517 : decode cL_law 517 = .ok (.iadd, 1) := by decide +kernel
theorem dL_law_518 : decode cL_law 518 = .ok (.iaload, 1) := by decide +kernel
theorem dL_law_519 : decode cL_law 519 = .ok (.invokevirtual 78, 3) := by decide +kernel
theorem dL_law_522 : decode cL_law 522 = .ok (.if_icmp .eq 240, 3) := by decide +kernel
theorem dL_law_525 : decode cL_law 525 = .ok (.iconst 0, 1) := by decide +kernel
theorem dL_law_526 : decode cL_law 526 = .ok (.ireturn, 1) := by decide +kernel
theorem dL_law_527 : decode cL_law 527 = .ok (.aload_n 1, 1) := by decide +kernel
theorem dL_law_528 : decode cL_law 528 = .ok (.aload_n 0, 1) := by decide +kernel
theorem dL_law_529 : decode cL_law 529 = .ok (.iload_n 3, 1) := by decide +kernel
theorem dL_law_530 : decode cL_law 530 = .ok (.iconst 1, 1) := by decide +kernel
theorem dL_law_531 : decode cL_law 531 = .ok (.iadd, 1) := by decide +kernel
theorem dL_law_532 : decode cL_law 532 = .ok (.iaload, 1) := by decide +kernel
theorem dL_law_533 : decode cL_law 533 = .ok (.invokevirtual 79, 3) := by decide +kernel
theorem dL_law_536 : decode cL_law 536 = .ok (.aload_n 2, 1) := by decide +kernel
theorem dL_law_537 : decode cL_law 537 = .ok (.aload_n 0, 1) := by decide +kernel
theorem dL_law_538 : decode cL_law 538 = .ok (.iload_n 3, 1) := by decide +kernel
theorem dL_law_539 : decode cL_law 539 = .ok (.iconst 1, 1) := by decide +kernel
theorem dL_law_540 : decode cL_law 540 = .ok (.iadd, 1) := by decide +kernel
theorem dL_law_541 : decode cL_law 541 = .ok (.iaload, 1) := by decide +kernel
theorem dL_law_542 : decode cL_law 542 = .ok (.invokevirtual 82, 3) := by decide +kernel
theorem dL_law_545 : decode cL_law 545 = .ok (.if_icmp .eq 217, 3) := by decide +kernel
theorem dL_law_548 : decode cL_law 548 = .ok (.iconst 0, 1) := by decide +kernel
theorem dL_law_549 : decode cL_law 549 = .ok (.ireturn, 1) := by decide +kernel
theorem dL_law_550 : decode cL_law 550 = .ok (.aload_n 1, 1) := by decide +kernel
theorem dL_law_551 : decode cL_law 551 = .ok (.invokevirtual 83, 3) := by decide +kernel
theorem dL_law_554 : decode cL_law 554 = .ok (.aload_n 2, 1) := by decide +kernel
theorem dL_law_555 : decode cL_law 555 = .ok (.invokevirtual 86, 3) := by decide +kernel
theorem dL_law_558 : decode cL_law 558 = .ok (.if_icmp .eq 204, 3) := by decide +kernel
theorem dL_law_561 : decode cL_law 561 = .ok (.iconst 0, 1) := by decide +kernel
theorem dL_law_562 : decode cL_law 562 = .ok (.ireturn, 1) := by decide +kernel
theorem dL_law_563 : decode cL_law 563 = .ok (.aload_n 1, 1) := by decide +kernel
theorem dL_law_564 : decode cL_law 564 = .ok (.invokevirtual 87, 3) := by decide +kernel
theorem dL_law_567 : decode cL_law 567 = .ok (.aload_n 2, 1) := by decide +kernel
theorem dL_law_568 : decode cL_law 568 = .ok (.invokevirtual 90, 3) := by decide +kernel
theorem dL_law_571 : decode cL_law 571 = .ok (.if_icmp .eq 191, 3) := by decide +kernel
theorem dL_law_574 : decode cL_law 574 = .ok (.iconst 0, 1) := by decide +kernel
theorem dL_law_575 : decode cL_law 575 = .ok (.ireturn, 1) := by decide +kernel
theorem dL_law_576 : decode cL_law 576 = .ok (.aload_n 1, 1) := by decide +kernel
theorem dL_law_577 : decode cL_law 577 = .ok (.aload_n 0, 1) := by decide +kernel
theorem dL_law_578 : decode cL_law 578 = .ok (.iload_n 3, 1) := by decide +kernel
theorem dL_law_579 : decode cL_law 579 = .ok (.iconst 1, 1) := by decide +kernel
theorem dL_law_580 : decode cL_law 580 = .ok (.iadd, 1) := by decide +kernel
theorem dL_law_581 : decode cL_law 581 = .ok (.iaload, 1) := by decide +kernel
theorem dL_law_582 : decode cL_law 582 = .ok (.aload_n 0, 1) := by decide +kernel
theorem dL_law_583 : decode cL_law 583 = .ok (.iload_n 3, 1) := by decide +kernel
theorem dL_law_584 : decode cL_law 584 = .ok (.iconst 2, 1) := by decide +kernel
theorem dL_law_585 : decode cL_law 585 = .ok (.iadd, 1) := by decide +kernel
theorem dL_law_586 : decode cL_law 586 = .ok (.iaload, 1) := by decide +kernel
theorem dL_law_587 : decode cL_law 587 = .ok (.invokevirtual 91, 3) := by decide +kernel
theorem dL_law_590 : decode cL_law 590 = .ok (.aload_n 2, 1) := by decide +kernel
theorem dL_law_591 : decode cL_law 591 = .ok (.aload_n 0, 1) := by decide +kernel
theorem dL_law_592 : decode cL_law 592 = .ok (.iload_n 3, 1) := by decide +kernel
theorem dL_law_593 : decode cL_law 593 = .ok (.iconst 1, 1) := by decide +kernel
theorem dL_law_594 : decode cL_law 594 = .ok (.iadd, 1) := by decide +kernel
theorem dL_law_595 : decode cL_law 595 = .ok (.iaload, 1) := by decide +kernel
theorem dL_law_596 : decode cL_law 596 = .ok (.aload_n 0, 1) := by decide +kernel
theorem dL_law_597 : decode cL_law 597 = .ok (.iload_n 3, 1) := by decide +kernel
theorem dL_law_598 : decode cL_law 598 = .ok (.iconst 2, 1) := by decide +kernel
theorem dL_law_599 : decode cL_law 599 = .ok (.iadd, 1) := by decide +kernel
theorem dL_law_600 : decode cL_law 600 = .ok (.iaload, 1) := by decide +kernel
theorem dL_law_601 : decode cL_law 601 = .ok (.invokevirtual 94, 3) := by decide +kernel
theorem dL_law_604 : decode cL_law 604 = .ok (.if_icmp .eq 158, 3) := by decide +kernel
theorem dL_law_607 : decode cL_law 607 = .ok (.iconst 0, 1) := by decide +kernel
theorem dL_law_608 : decode cL_law 608 = .ok (.ireturn, 1) := by decide +kernel
theorem dL_law_609 : decode cL_law 609 = .ok (.aload_n 1, 1) := by decide +kernel
theorem dL_law_610 : decode cL_law 610 = .ok (.invokevirtual 95, 3) := by decide +kernel
theorem dL_law_613 : decode cL_law 613 = .ok (.aload_n 2, 1) := by decide +kernel
theorem dL_law_614 : decode cL_law 614 = .ok (.invokevirtual 98, 3) := by decide +kernel
theorem dL_law_617 : decode cL_law 617 = .ok (.if_icmp .eq 145, 3) := by decide +kernel
theorem dL_law_620 : decode cL_law 620 = .ok (.iconst 0, 1) := by decide +kernel
theorem dL_law_621 : decode cL_law 621 = .ok (.ireturn, 1) := by decide +kernel
theorem dL_law_622 : decode cL_law 622 = .ok (.aload_n 1, 1) := by decide +kernel
theorem dL_law_623 : decode cL_law 623 = .ok (.aload_n 0, 1) := by decide +kernel
theorem dL_law_624 : decode cL_law 624 = .ok (.iload_n 3, 1) := by decide +kernel
theorem dL_law_625 : decode cL_law 625 = .ok (.iconst 1, 1) := by decide +kernel
theorem dL_law_626 : decode cL_law 626 = .ok (.iadd, 1) := by decide +kernel
theorem dL_law_627 : decode cL_law 627 = .ok (.iaload, 1) := by decide +kernel
theorem dL_law_628 : decode cL_law 628 = .ok (.invokevirtual 99, 3) := by decide +kernel
theorem dL_law_631 : decode cL_law 631 = .ok (.aload_n 2, 1) := by decide +kernel
theorem dL_law_632 : decode cL_law 632 = .ok (.aload_n 0, 1) := by decide +kernel
theorem dL_law_633 : decode cL_law 633 = .ok (.iload_n 3, 1) := by decide +kernel
theorem dL_law_634 : decode cL_law 634 = .ok (.iconst 1, 1) := by decide +kernel
theorem dL_law_635 : decode cL_law 635 = .ok (.iadd, 1) := by decide +kernel
theorem dL_law_636 : decode cL_law 636 = .ok (.iaload, 1) := by decide +kernel
theorem dL_law_637 : decode cL_law 637 = .ok (.invokevirtual 102, 3) := by decide +kernel
theorem dL_law_640 : decode cL_law 640 = .ok (.if_icmp .eq 122, 3) := by decide +kernel
theorem dL_law_643 : decode cL_law 643 = .ok (.iconst 0, 1) := by decide +kernel
theorem dL_law_644 : decode cL_law 644 = .ok (.ireturn, 1) := by decide +kernel
theorem dL_law_645 : decode cL_law 645 = .ok (.aload_n 1, 1) := by decide +kernel
theorem dL_law_646 : decode cL_law 646 = .ok (.aload_n 0, 1) := by decide +kernel
theorem dL_law_647 : decode cL_law 647 = .ok (.iload_n 3, 1) := by decide +kernel
theorem dL_law_648 : decode cL_law 648 = .ok (.iconst 1, 1) := by decide +kernel
theorem dL_law_649 : decode cL_law 649 = .ok (.iadd, 1) := by decide +kernel
theorem dL_law_650 : decode cL_law 650 = .ok (.iaload, 1) := by decide +kernel
theorem dL_law_651 : decode cL_law 651 = .ok (.invokevirtual 103, 3) := by decide +kernel
theorem dL_law_654 : decode cL_law 654 = .ok (.aload_n 2, 1) := by decide +kernel
theorem dL_law_655 : decode cL_law 655 = .ok (.aload_n 0, 1) := by decide +kernel
theorem dL_law_656 : decode cL_law 656 = .ok (.iload_n 3, 1) := by decide +kernel
theorem dL_law_657 : decode cL_law 657 = .ok (.iconst 1, 1) := by decide +kernel
theorem dL_law_658 : decode cL_law 658 = .ok (.iadd, 1) := by decide +kernel
theorem dL_law_659 : decode cL_law 659 = .ok (.iaload, 1) := by decide +kernel
theorem dL_law_660 : decode cL_law 660 = .ok (.invokevirtual 107, 3) := by decide +kernel
theorem dL_law_663 : decode cL_law 663 = .ok (.lcmp, 1) := by decide +kernel
theorem dL_law_664 : decode cL_law 664 = .ok (.ifCond .eq 98, 3) := by decide +kernel
theorem dL_law_667 : decode cL_law 667 = .ok (.iconst 0, 1) := by decide +kernel
theorem dL_law_668 : decode cL_law 668 = .ok (.ireturn, 1) := by decide +kernel
theorem dL_law_669 : decode cL_law 669 = .ok (.aload_n 1, 1) := by decide +kernel
theorem dL_law_670 : decode cL_law 670 = .ok (.aload_n 0, 1) := by decide +kernel
theorem dL_law_671 : decode cL_law 671 = .ok (.iload_n 3, 1) := by decide +kernel
theorem dL_law_672 : decode cL_law 672 = .ok (.iconst 1, 1) := by decide +kernel
theorem dL_law_673 : decode cL_law 673 = .ok (.iadd, 1) := by decide +kernel
theorem dL_law_674 : decode cL_law 674 = .ok (.iaload, 1) := by decide +kernel
theorem dL_law_675 : decode cL_law 675 = .ok (.invokevirtual 108, 3) := by decide +kernel
theorem dL_law_678 : decode cL_law 678 = .ok (.aload_n 2, 1) := by decide +kernel
theorem dL_law_679 : decode cL_law 679 = .ok (.aload_n 0, 1) := by decide +kernel
theorem dL_law_680 : decode cL_law 680 = .ok (.iload_n 3, 1) := by decide +kernel
theorem dL_law_681 : decode cL_law 681 = .ok (.iconst 1, 1) := by decide +kernel
theorem dL_law_682 : decode cL_law 682 = .ok (.iadd, 1) := by decide +kernel
theorem dL_law_683 : decode cL_law 683 = .ok (.iaload, 1) := by decide +kernel
theorem dL_law_684 : decode cL_law 684 = .ok (.invokevirtual 111, 3) := by decide +kernel
theorem dL_law_687 : decode cL_law 687 = .ok (.lcmp, 1) := by decide +kernel
theorem dL_law_688 : decode cL_law 688 = .ok (.ifCond .eq 74, 3) := by decide +kernel
theorem dL_law_691 : decode cL_law 691 = .ok (.iconst 0, 1) := by decide +kernel
theorem dL_law_692 : decode cL_law 692 = .ok (.ireturn, 1) := by decide +kernel
theorem dL_law_693 : decode cL_law 693 = .ok (.aload_n 1, 1) := by decide +kernel
theorem dL_law_694 : decode cL_law 694 = .ok (.aload_n 0, 1) := by decide +kernel
theorem dL_law_695 : decode cL_law 695 = .ok (.iload_n 3, 1) := by decide +kernel
theorem dL_law_696 : decode cL_law 696 = .ok (.iconst 1, 1) := by decide +kernel
theorem dL_law_697 : decode cL_law 697 = .ok (.iadd, 1) := by decide +kernel
theorem dL_law_698 : decode cL_law 698 = .ok (.iaload, 1) := by decide +kernel
theorem dL_law_699 : decode cL_law 699 = .ok (.invokevirtual 112, 3) := by decide +kernel
theorem dL_law_702 : decode cL_law 702 = .ok (.aload_n 2, 1) := by decide +kernel
theorem dL_law_703 : decode cL_law 703 = .ok (.aload_n 0, 1) := by decide +kernel
theorem dL_law_704 : decode cL_law 704 = .ok (.iload_n 3, 1) := by decide +kernel
theorem dL_law_705 : decode cL_law 705 = .ok (.iconst 1, 1) := by decide +kernel
theorem dL_law_706 : decode cL_law 706 = .ok (.iadd, 1) := by decide +kernel
theorem dL_law_707 : decode cL_law 707 = .ok (.iaload, 1) := by decide +kernel
theorem dL_law_708 : decode cL_law 708 = .ok (.invokevirtual 115, 3) := by decide +kernel
theorem dL_law_711 : decode cL_law 711 = .ok (.if_icmp .eq 51, 3) := by decide +kernel
theorem dL_law_714 : decode cL_law 714 = .ok (.iconst 0, 1) := by decide +kernel
theorem dL_law_715 : decode cL_law 715 = .ok (.ireturn, 1) := by decide +kernel
theorem dL_law_716 : decode cL_law 716 = .ok (.aload_n 1, 1) := by decide +kernel
theorem dL_law_717 : decode cL_law 717 = .ok (.aload_n 0, 1) := by decide +kernel
end
section
theorem dL_law_718 : decode cL_law 718 = .ok (.iload_n 3, 1) := by decide +kernel
theorem dL_law_719 : decode cL_law 719 = .ok (.iconst 1, 1) := by decide +kernel
theorem dL_law_720 : decode cL_law 720 = .ok (.iadd, 1) := by decide +kernel
theorem dL_law_721 : decode cL_law 721 = .ok (.iaload, 1) := by decide +kernel
theorem dL_law_722 : decode cL_law 722 = .ok (.invokevirtual 116, 3) := by decide +kernel
theorem dL_law_725 : decode cL_law 725 = .ok (.aload_n 2, 1) := by decide +kernel
theorem dL_law_726 : decode cL_law 726 = .ok (.aload_n 0, 1) := by decide +kernel
theorem dL_law_727 : decode cL_law 727 = .ok (.iload_n 3, 1) := by decide +kernel
theorem dL_law_728 : decode cL_law 728 = .ok (.iconst 1, 1) := by decide +kernel
theorem dL_law_729 : decode cL_law 729 = .ok (.iadd, 1) := by decide +kernel
theorem dL_law_730 : decode cL_law 730 = .ok (.iaload, 1) := by decide +kernel
theorem dL_law_731 : decode cL_law 731 = .ok (.invokevirtual 119, 3) := by decide +kernel
theorem dL_law_734 : decode cL_law 734 = .ok (.if_icmp .eq 28, 3) := by decide +kernel
theorem dL_law_737 : decode cL_law 737 = .ok (.iconst 0, 1) := by decide +kernel
theorem dL_law_738 : decode cL_law 738 = .ok (.ireturn, 1) := by decide +kernel
theorem dL_law_739 : decode cL_law 739 = .ok (.aload_n 1, 1) := by decide +kernel
theorem dL_law_740 : decode cL_law 740 = .ok (.aload_n 0, 1) := by decide +kernel
theorem dL_law_741 : decode cL_law 741 = .ok (.iload_n 3, 1) := by decide +kernel
theorem dL_law_742 : decode cL_law 742 = .ok (.iconst 1, 1) := by decide +kernel
theorem dL_law_743 : decode cL_law 743 = .ok (.iadd, 1) := by decide +kernel
theorem dL_law_744 : decode cL_law 744 = .ok (.iaload, 1) := by decide +kernel
theorem dL_law_745 : decode cL_law 745 = .ok (.invokevirtual 120, 3) := by decide +kernel
theorem dL_law_748 : decode cL_law 748 = .ok (.aload_n 2, 1) := by decide +kernel
theorem dL_law_749 : decode cL_law 749 = .ok (.aload_n 0, 1) := by decide +kernel
theorem dL_law_750 : decode cL_law 750 = .ok (.iload_n 3, 1) := by decide +kernel
theorem dL_law_751 : decode cL_law 751 = .ok (.iconst 1, 1) := by decide +kernel
theorem dL_law_752 : decode cL_law 752 = .ok (.iadd, 1) := by decide +kernel
theorem dL_law_753 : decode cL_law 753 = .ok (.iaload, 1) := by decide +kernel
theorem dL_law_754 : decode cL_law 754 = .ok (.invokevirtual 123, 3) := by decide +kernel
theorem dL_law_757 : decode cL_law 757 = .ok (.if_icmp .eq 5, 3) := by decide +kernel
theorem dL_law_760 : decode cL_law 760 = .ok (.iconst 0, 1) := by decide +kernel
theorem dL_law_761 : decode cL_law 761 = .ok (.ireturn, 1) := by decide +kernel
theorem dL_law_762 : decode cL_law 762 = .ok (.iinc 3 6, 3) := by decide +kernel
theorem dL_law_765 : decode cL_law 765 = .ok (.goto (-747), 3) := by decide +kernel
theorem dL_law_768 : decode cL_law 768 = .ok (.iconst 1, 1) := by decide +kernel
theorem dL_law_769 : decode cL_law 769 = .ok (.ireturn, 1) := by decide +kernel
end
section
/-! ===== which fields are references ===== -/
def FKs : List (List Nat) := [[1], [1, 1, 0, 0, 0], [1, 1, 1, 1, 0, 0, 0, 0], [1, 1], [1, 0, 0, 1, 1, 1, 1, 1, 0, 0, 0, 0, 0, 0, 0, 0], [1, 1, 0, 0], [1, 1, 0, 0, 1, 1, 0, 0], [1, 0], [1, 0, 1], [0, 0, 1], [1, 1, 1, 1, 1, 1, 1, 0], [1, 1, 1, 1, 0, 0, 0, 0, 0, 0, 0, 0, 1, 1, 1, 0, 0, 1, 1, 1, 1, 1, 1]]
def FK (ci : Nat) : List Nat := FKs.getD ci []
/-- the tables' words that stay as they are -/
def tg : List Cond := lw_tbl.filter goodWord
theorem mem_tg {w : Cond} (h : w ∈ lw_tbl) (hg : goodWord w = true) : w ∈ tg := List.mem_filter.mpr ⟨h, hg⟩
theorem tg_good {w : Cond} (h : w ∈ tg) : (w.onTables && w.keeps) = true ∨ ∃ ty, w = .arrayClass ty := good_of_word (List.mem_filter.mp h).2
theorem tg_in {y : MethodName} {cc : ByteArray} {nL : Nat} {ret : Option FieldType} (h : Cond.code y cc nL ret ∈ tg) : GoodIn tg (Cond.code y cc nL ret :: tg) := fun w hw => by
  rcases List.mem_cons.mp hw with e | e
  · subst e; exact ⟨h, tg_good h⟩
  · exact ⟨e, tg_good e⟩
def isNest : Cond → Bool
  | .methodLinkNest .. => true
  | _ => false
def AOt (ty : FieldType) (U : State) : Prop := (Cond.arrayOver ty).before #[] U = true
theorem AOt.movedO {C : String} {u U : State} (hvm : u.vm.Alike U.vm) (h : AOt (.object C) u) : AOt (.object C) U := va_AO.moved hvm h
theorem AOt.movedA {t : FieldType} {u U : State} (hal : u.vm.Alike U.vm) (h : AOt (.array t) u) : AOt (.array t) U := by
  unfold AOt at h ⊢
  simp only [Cond.before, Cond.holds, Cond.value] at h ⊢
  rw [hal.findClass]
  cases hf : u.vm.findClass (FieldType.array t).toString with
  | none => rw [hf] at h; simp at h
  | some comp =>
    rw [hf] at h
    simp only [Option.bind_some] at h ⊢
    rw [hal.findIdx_congr _ (fun _ _ _ _ => rfl)]
    generalize hF : (u.vm.classes.findIdx? fun (x : Class) => match x.kind with | .array component _ => component == comp | _ => false) = fi at h ⊢
    cases fi with
    | none => simp at h
    | some c =>
      simp only [Option.bind_some] at h ⊢
      cases hk : u.vm.classes[c]? with
      | none => rw [hk] at h; simp at h
      | some k =>
        obtain ⟨k2, hk2, ek⟩ := hal.2.2 _ _ hk
        rw [hk] at h
        rw [hk2, hal.findClass]
        have ekind : k2.kind = k.kind := by rw [ek]
        simp only [Option.map_some] at h ⊢
        rw [ekind]
        exact h
/-! ===== a thin logic over the kit: the whole heap from the law's start on as one world ===== -/
abbrev wKd : Type := Nat → Nat × Nat
abbrev wIn : Type := Nat → Nat → Int32
abbrev wLn : Type := Nat → Nat → Int64
abbrev wRf : Type := Nat → Nat → Option Nat
def zo (z : Nat) (r : Option Nat) : Option Nat := r.map (fun j => z + j)
def cv (z : Nat) (v : Value) : Value := match v with
  | .ref a => .ref (z + a)
  | .int x => .int x
  | .long x => .long x
  | .float x => .float x
  | .double x => .double x
  | .null => .null
  | .retAddr x => .ref x
theorem cv_cat (z : Nat) (v : Value) : (cv z v).category = v.category := by cases v <;> rfl
theorem cv_rf (z : Nat) (r : Option Nat) : va_rf (zo z r) = cv z (va_rf r) := by cases r <;> rfl
/-- a cell's new value -/
def up2 {α : Type} (f : Nat → Nat → α) (i k : Nat) (x : α) : Nat → Nat → α := fun a b => if a = i ∧ b = k then x else f a b
/-- a cell's new contents -/
def up1 {α : Type} (f : Nat → α) (i : Nat) (x : α) : Nat → α := fun a => if a = i then x else f a
theorem up2_s {α : Type} (f : Nat → Nat → α) (i k : Nat) (x : α) : up2 f i k x i k = x := by simp [up2]
theorem up2_n {α : Type} (f : Nat → Nat → α) (i k : Nat) (x : α) {a b : Nat} (h : ¬ (a = i ∧ b = k)) : up2 f i k x a b = f a b := by simp [up2, h]
theorem up1_s {α : Type} (f : Nat → α) (i : Nat) (x : α) : up1 f i x i = x := by simp [up1]
theorem up1_n {α : Type} (f : Nat → α) (i : Nat) (x : α) {a : Nat} (h : ¬ a = i) : up1 f i x a = f a := by simp [up1, h]
/-- which fields of a class are references: 1, and which are numbers: 0 -/
def flds (z : Nat) (I : Nat → Int32) (R : Nat → Option Nat) : List Nat → Nat → List Value
  | [], _ => []
  | f :: l, k => (if f = 0 then .int (I k) else va_rf (zo z (R k))) :: flds z I R l (k + 1)
theorem flds_get (z : Nat) (I : Nat → Int32) (R : Nat → Option Nat) : ∀ (l : List Nat) (k j f : Nat), l[j]? = some f → (flds z I R l k)[j]? = some (if f = 0 then .int (I (k + j)) else va_rf (zo z (R (k + j))))
  | [], _, _, _, h => by simp at h
  | g :: l, k, 0, f, h => by
    simp at h
    subst h
    simp [flds]
  | g :: l, k, j + 1, f, h => by
    have h1 := flds_get z I R l (k + 1) j f (by simpa using h)
    simp only [flds, List.getElem?_cons_succ]
    rw [h1, Nat.add_right_comm, Nat.add_assoc]
theorem flds_len (z : Nat) (I : Nat → Int32) (R : Nat → Option Nat) : ∀ (l : List Nat) (k : Nat), (flds z I R l k).length = l.length
  | [], _ => rfl
  | g :: l, k => by simp [flds, flds_len z I R l (k + 1)]
theorem flds_eqI (z : Nat) (I I' : Nat → Int32) (R R' : Nat → Option Nat) : ∀ (l : List Nat) (k : Nat), (∀ a, k ≤ a → I' a = I a) → (∀ a, k ≤ a → R' a = R a) → flds z I' R' l k = flds z I R l k
  | [], _, _, _ => rfl
  | g :: l, k, h, hr => by
    simp only [flds]
    rw [h k (Nat.le_refl k), hr k (Nat.le_refl k), flds_eqI z I I' R R' l (k + 1) (fun a q => h a (by omega)) (fun a q => hr a (by omega))]
theorem flds_setI (z : Nat) (I I' : Nat → Int32) (R : Nat → Option Nat) (x : Int32) : ∀ (l : List Nat) (k j : Nat), l[j]? = some 0 → I' (k + j) = x → (∀ a, a ≠ k + j → I' a = I a) → (flds z I R l k).set j (.int x) = flds z I' R l k
  | [], _, _, h, _, _ => by simp at h
  | g :: l, k, 0, h, h1, h2 => by
    simp at h
    subst h
    simp only [flds, List.set_cons_zero]
    rw [flds_eqI z I I' R R l (k + 1) (fun a q => h2 a (by omega)) (fun _ _ => rfl)]
    have h3 : I' k = x := by simpa using h1
    rw [h3]; rfl
  | g :: l, k, j + 1, h, h1, h2 => by
    simp only [flds, List.set_cons_succ]
    rw [flds_setI z I I' R x l (k + 1) j (by simpa using h) (by rw [← h1]; congr 1; omega) (fun a q => h2 a (by omega)), h2 k (by omega)]
theorem flds_setR (z : Nat) (I : Nat → Int32) (R R' : Nat → Option Nat) (x : Option Nat) : ∀ (l : List Nat) (k j : Nat), l[j]? = some 1 → R' (k + j) = x → (∀ a, a ≠ k + j → R' a = R a) → (flds z I R l k).set j (va_rf (zo z x)) = flds z I R' l k
  | [], _, _, h, _, _ => by simp at h
  | g :: l, k, 0, h, h1, h2 => by
    simp at h
    subst h
    simp only [flds, List.set_cons_zero]
    rw [flds_eqI z I I R R' l (k + 1) (fun _ _ => rfl) (fun a q => h2 a (by omega))]
    have h3 : R' k = x := by simpa using h1
    rw [h3]; rfl
  | g :: l, k, j + 1, h, h1, h2 => by
    simp only [flds, List.set_cons_succ]
    rw [flds_setR z I R R' x l (k + 1) j (by simpa using h) (by rw [← h1]; congr 1; omega) (fun a q => h2 a (by omega)), h2 k (by omega)]
/-- a cell of the world: kind (class number, 0) is an object; (100 int, 101 byte, 102 boolean, 103 long, 104 the class's array of Matters, 105 int[][], length) an array -/
def cel (cT : Nat → ClassId) (z : Nat) (κ : Nat × Nat) (I : Nat → Int32) (L : Nat → Int64) (R : Nat → Option Nat) : va_E :=
  if κ.1 < 100 then .inr (κ.1, flds z I R (FK κ.1) 0)
  else if κ.1 < 103 then .inl (cT κ.1, κ.2, .inl I)
  else if κ.1 = 103 then .inl (cT κ.1, κ.2, .inr (.inl L))
  else .inl (cT κ.1, κ.2, .inr (.inr (.inr (.inr (fun j => zo z (R j))))))
def wl (cT : Nat → ClassId) (z n : Nat) (K : wKd) (I : wIn) (L : wLn) (R : wRf) : va_W := (List.range n).map (fun i => (z + i, cel cT z (K i) (I i) (L i) (R i)))
theorem wl_get {cT : Nat → ClassId} {z n i : Nat} {K : wKd} {I : wIn} {L : wLn} {R : wRf} (h : i < n) : (wl cT z n K I L R)[i]? = some (z + i, cel cT z (K i) (I i) (L i) (R i)) := by
  simp [wl, h]
theorem wl_len {cT : Nat → ClassId} {z n : Nat} {K : wKd} {I : wIn} {L : wLn} {R : wRf} : (wl cT z n K I L R).length = n := by simp [wl]
theorem wl_at {cT : Nat → ClassId} {z n k : Nat} {K : wKd} {I : wIn} {L : wLn} {R : wRf} {q : Nat × va_E} (h : (wl cT z n K I L R)[k]? = some q) : k < n ∧ q = (z + k, cel cT z (K k) (I k) (L k) (R k)) := by
  have hk : k < n := by
    have := (List.getElem?_eq_some_iff.mp h).1
    rwa [wl_len] at this
  rw [wl_get hk] at h
  exact ⟨hk, (Option.some.inj h).symm⟩
theorem wl_D {cT : Nat → ClassId} {z n : Nat} {K : wKd} {I : wIn} {L : wLn} {R : wRf} : va_D (fun q => z ≤ q) (wl cT z n K I L R) := by
  refine ⟨fun i j p q hi hj h => ?_, fun k q hk => ?_⟩
  · obtain ⟨-, rfl⟩ := wl_at hi
    obtain ⟨-, rfl⟩ := wl_at hj
    have h : z + i = z + j := h
    omega
  · obtain ⟨-, rfl⟩ := wl_at hk
    exact Nat.le_add_right z k
theorem wl_set {cT : Nat → ClassId} {z n i : Nat} {K K' : wKd} {I I' : wIn} {L L' : wLn} {R R' : wRf} {x : va_E} (hx : cel cT z (K' i) (I' i) (L' i) (R' i) = x) (ho : ∀ j, j ≠ i → K' j = K j ∧ I' j = I j ∧ L' j = L j ∧ R' j = R j) : (wl cT z n K I L R).set i (z + i, x) = wl cT z n K' I' L' R' := by
  apply List.ext_getElem?
  intro k
  rw [List.getElem?_set]
  by_cases hk : k < n
  · by_cases e : i = k
    · subst e
      rw [if_pos rfl, wl_len, if_pos hk, wl_get hk, hx]
    · rw [if_neg e, wl_get hk, wl_get hk]
      obtain ⟨h1, h2, h3, h4⟩ := ho k (Ne.symm e)
      rw [h1, h2, h3, h4]
  · have h1 : (wl cT z n K' I' L' R')[k]? = none := by simp [wl_len]; omega
    have h2 : (wl cT z n K I L R)[k]? = none := by simp [wl_len]; omega
    rw [h1, h2]
    by_cases e : i = k
    · subst e
      simp [wl_len, hk]
    · simp [e]
theorem wl_push {cT : Nat → ClassId} {z n : Nat} {K K' : wKd} {I I' : wIn} {L L' : wLn} {R R' : wRf} (ho : ∀ j, j < n → K' j = K j ∧ I' j = I j ∧ L' j = L j ∧ R' j = R j) : wl cT z (n + 1) K' I' L' R' = wl cT z n K I L R ++ [(z + n, cel cT z (K' n) (I' n) (L' n) (R' n))] := by
  unfold wl
  rw [List.range_succ, List.map_append]
  congr 1
  apply List.map_congr_left
  intro a ha
  obtain ⟨h1, h2, h3, h4⟩ := ho a (List.mem_range.mp ha)
  rw [h1, h2, h3, h4]
def tysOf (cT : Nat → ClassId) : List (ClassId × FieldType) := [(cT 100, .int), (cT 101, .byte), (cT 102, .boolean), (cT 103, .long), (cT 104, .object RX2), (cT 105, .array .int)]
/-- the heap holds the world -/
def HW (D : va_G) (cT : Nat → ClassId) (z n : Nat) (K : wKd) (I : wIn) (L : wLn) (R : wRf) (H : Heap) : Prop := H.size = z + n ∧ (∀ i, n ≤ i → K i = (999, 0)) ∧ va_P D vwCl (wl cT z n K I L R) H
theorem HW.lt {D : va_G} {cT : Nat → ClassId} {z n : Nat} {K : wKd} {I : wIn} {L : wLn} {R : wRf} {H : Heap} (h : HW D cT z n K I L R H) {i : Nat} {κ : Nat × Nat} (hk : K i = κ) (hn : κ.1 ≠ 999) : i < n := by
  rcases Nat.lt_or_ge i n with q | q
  · exact q
  · rw [h.2.1 i q] at hk
    subst hk
    exact absurd rfl hn
/-- what the tables say of the world's classes -/
def KX (D : va_G) (cT : Nat → ClassId) (U : State) : Prop := va_K D vwCl (tysOf cT) U ∧ (∀ w ∈ lw_tbl, isNest w = true → va_Nw w U) ∧ AOt (.object RX2) U ∧ AOt (.array .int) U
theorem KX.warm {D : va_G} {cT : Nat → ClassId} {s U : State} (hW : s.WarmedH U.vm) (h : KX D cT s) : KX D cT U := ⟨va_K.moved hW.alike h.1, fun w hw hn => by
  cases w <;> first | exact va_Nw.warmM hW (h.2.1 _ hw hn) | (simp [isNest] at hn), h.2.2.1.movedO hW.alike, h.2.2.2.movedA hW.alike⟩
/-- all that stays the same while a method runs -/
abbrev Gm : Type := Program × Launch × Env × Room × State × MethodId × Array Value × List Frame × Method × Code × va_G × (Nat → ClassId) × Nat
abbrev gp (Γ : Gm) : Program := Γ.1
abbrev gl (Γ : Gm) : Launch := Γ.2.1
abbrev ge (Γ : Gm) : Env := Γ.2.2.1
abbrev gR (Γ : Gm) : Room := Γ.2.2.2.1
abbrev gs (Γ : Gm) : State := Γ.2.2.2.2.1
abbrev gm (Γ : Gm) : MethodId := Γ.2.2.2.2.2.1
abbrev ga (Γ : Gm) : Array Value := Γ.2.2.2.2.2.2.1
abbrev gb (Γ : Gm) : List Frame := Γ.2.2.2.2.2.2.2.1
abbrev gme (Γ : Gm) : Method := Γ.2.2.2.2.2.2.2.2.1
abbrev gc (Γ : Gm) : Code := Γ.2.2.2.2.2.2.2.2.2.1
abbrev gD (Γ : Gm) : va_G := Γ.2.2.2.2.2.2.2.2.2.2.1
abbrev gT (Γ : Gm) : Nat → ClassId := Γ.2.2.2.2.2.2.2.2.2.2.2.1
abbrev gz (Γ : Gm) : Nat := Γ.2.2.2.2.2.2.2.2.2.2.2.2
/-- the method's own facts: its class, code, locals, answer, room -/
def Cx (Γ : Gm) (own : String) (cc : ByteArray) (nL : Nat) (ret : Option FieldType) (rm : Room) (nm : String) : Prop :=
  (gp Γ).tables.exec = Jvm.exec ∧ (gc Γ).code = cc ∧ (gme Γ).sig.returnType = ret ∧ (gc Γ).maxLocals = nL ∧ (gs Γ).vm.findClass own = some (gm Γ).cls ∧ (∀ w ∈ tg, w.before (ga Γ) (gs Γ) = true) ∧ (gme Γ).locks = false ∧ KX (gD Γ) (gT Γ) (gs Γ) ∧ gR Γ = rm ∧ (gme Γ).name = nm ∧ gz Γ ≤ (gs Γ).heap.size
/-- locals by their places -/
def lps (z : Nat) : Nat → List (Option Value) → List (Nat × Value)
  | _, [] => []
  | k, none :: l => lps z (k + 1) l
  | k, some v :: l => (k, cv z v) :: lps z (k + 1) l
theorem lps_mem (z : Nat) : ∀ (l : List (Option Value)) (k : Nat) (q : Nat × Value), q ∈ lps z k l ↔ ∃ (j : Nat) (v : Value), l[j]? = some (some v) ∧ q = (k + j, cv z v)
  | [], k, q => by simp [lps]
  | none :: l, k, q => by
    simp only [lps]
    rw [lps_mem z l (k + 1) q]
    constructor
    · rintro ⟨j, v, h1, h2⟩
      exact ⟨j + 1, v, by simpa using h1, by rw [h2, Nat.add_assoc, Nat.add_comm 1 j]⟩
    · rintro ⟨j, v, h1, h2⟩
      cases j with
      | zero => simp at h1
      | succ j => exact ⟨j, v, by simpa using h1, by rw [h2, Nat.add_assoc, Nat.add_comm 1 j]⟩
  | some w :: l, k, q => by
    simp only [lps, List.mem_cons]
    rw [lps_mem z l (k + 1) q]
    constructor
    · rintro (h | ⟨j, v, h1, h2⟩)
      · exact ⟨0, w, by simp, by simpa using h⟩
      · exact ⟨j + 1, v, by simpa using h1, by rw [h2, Nat.add_assoc, Nat.add_comm 1 j]⟩
    · rintro ⟨j, v, h1, h2⟩
      cases j with
      | zero =>
        simp at h1
        subst h1
        exact Or.inl (by simpa using h2)
      | succ j => exact Or.inr ⟨j, v, by simpa using h1, by rw [h2, Nat.add_assoc, Nat.add_comm 1 j]⟩
def lh (z : Nat) (ls : Array Slot) (nL : Nat) (lo : List (Option Value)) : Prop := lv_has ls nL (lps z 0 lo)
theorem lh.get {z : Nat} {ls : Array Slot} {nL : Nat} {lo : List (Option Value)} (h : lh z ls nL lo) {k : Nat} {v : Value} (hk : lo[k]? = some (some v)) : ls[k]? = some (.val (cv z v)) := by
  have := h.2.2 (k, cv z v) ((lps_mem z lo 0 _).mpr ⟨k, v, hk, by simp⟩)
  exact this
theorem lh.less {z : Nat} {ls : Array Slot} {nL : Nat} {lo lo' : List (Option Value)} (h : lh z ls nL lo) (hs : ∀ (j : Nat) (v : Value), lo'[j]? = some (some v) → lo[j]? = some (some v)) : lh z ls nL lo' := ⟨h.1, h.2.1, fun q hq => by
  obtain ⟨j, v, h1, rfl⟩ := (lps_mem z lo' 0 q).mp hq
  exact h.2.2 _ ((lps_mem z lo 0 _).mpr ⟨j, v, hs j v h1, rfl⟩)⟩
def noL (lo : List (Option Value)) : Bool := lo.all (fun o => match o with
  | some (.long _) => false
  | some (.double _) => false
  | _ => true)
theorem noL_at {lo : List (Option Value)} (h : noL lo = true) {j : Nat} {v : Value} (hj : lo[j]? = some (some v)) : v.category ≠ 2 := by
  have := List.all_eq_true.mp h (some v) (List.mem_of_getElem? hj)
  cases v <;> simp_all [Value.category]
theorem lh.sto {z : Nat} {ls ls' : Array Slot} {nL i : Nat} {lo : List (Option Value)} {v : Value} (hn : noL lo = true) (h : lv_has ls' nL ((i, cv z v) :: (lps z 0 lo).filter (fun q => !(q.1 == i) && !(q.1 + 1 == i && q.2.category == 2)))) : lh z ls' nL (lo.set i (some v)) := by
  refine ⟨h.1, h.2.1, fun q hq => ?_⟩
  obtain ⟨j, w, h1, rfl⟩ := (lps_mem z _ 0 q).mp hq
  apply h.2.2
  rw [List.getElem?_set] at h1
  by_cases e : i = j
  · subst e
    rw [if_pos rfl] at h1
    split at h1
    · simp at h1
      subst h1
      simp
    · simp at h1
  · rw [if_neg e] at h1
    refine List.mem_cons_of_mem _ (List.mem_filter.mpr ⟨(lps_mem z lo 0 _).mpr ⟨j, w, h1, rfl⟩, ?_⟩)
    have := noL_at hn h1
    simp [cv_cat, this]
    omega
theorem lh.stoL {z : Nat} {ls ls' : Array Slot} {nL i : Nat} {lo : List (Option Value)} {v : Value} (hn : noL lo = true) (h : lv_has ls' nL ((i, cv z v) :: (lps z 0 lo).filter (fun q => !(q.1 == i) && (!(q.1 == i + 1) && !(q.1 + 1 == i && q.2.category == 2))))) : lh z ls' nL ((lo.set i (some v)).set (i + 1) none) := by
  refine ⟨h.1, h.2.1, fun q hq => ?_⟩
  obtain ⟨j, w, h1, rfl⟩ := (lps_mem z _ 0 q).mp hq
  apply h.2.2
  rw [List.getElem?_set] at h1
  by_cases e2 : i + 1 = j
  · rw [if_pos e2] at h1
    split at h1 <;> simp at h1
  rw [if_neg e2, List.getElem?_set] at h1
  by_cases e : i = j
  · subst e
    rw [if_pos rfl] at h1
    split at h1
    · simp at h1
      subst h1
      simp
    · simp at h1
  · rw [if_neg e] at h1
    refine List.mem_cons_of_mem _ (List.mem_filter.mpr ⟨(lps_mem z lo 0 _).mpr ⟨j, w, h1, rfl⟩, ?_⟩)
    have := noL_at hn h1
    simp [cv_cat, this]
    omega
/-- at pc, with these locals, this stack, this world: the machine comes to a state with Q -/
def wp (Γ : Gm) (cells slots : Nat) (Q : State → Prop) (pc : Nat) (lo : List (Option Value)) (st : List Value) (n : Nat) (K : wKd) (I : wIn) (L : wLn) (R : wRf) : Prop :=
  ∀ (H : Heap) (locs : List Loc) (ls : Array Slot), HW (gD Γ) (gT Γ) (gz Γ) n K I L R H → va_S (fun q => gz Γ ≤ q) (gs Γ).heap H locs → lh (gz Γ) ls (gc Γ).maxLocals lo → W (gp Γ) (gl Γ) (ge Γ) (gR Γ) (gs Γ) (gm Γ) (ga Γ) (gb Γ) (gme Γ) (gc Γ) H locs cells slots Q (F0 (gm Γ) pc ls (st.map (cv (gz Γ))))
end
section
section RULES
variable {Γ : Gm} {own : String} {cc : ByteArray} {nL : Nat} {ret : Option FieldType} {rm : Room} {nm : String} {cells slots pc pc2 : Nat} {Q : State → Prop} {lo : List (Option Value)} {st : List Value} {n : Nat} {K : wKd} {I : wIn} {L : wLn} {R : wRf}
theorem w_iadd (C : Cx Γ own cc nL ret rm nm) {x y : Int32} (hd : decode cc pc = .ok (.iadd, 1))  (hp : pc + 1 = pc2) (k : wp Γ cells slots Q pc2 lo (.int (x + y) :: st) n K I L R) : wp Γ cells slots Q pc lo (.int y :: .int x :: st) n K I L R := by
  subst hp; intro H locs ls hW hS hl
  exact lv_iadd C.1 C.2.1 hd (k H locs ls hW hS hl)
theorem w_isub (C : Cx Γ own cc nL ret rm nm) {x y : Int32} (hd : decode cc pc = .ok (.isub, 1))  (hp : pc + 1 = pc2) (k : wp Γ cells slots Q pc2 lo (.int (x - y) :: st) n K I L R) : wp Γ cells slots Q pc lo (.int y :: .int x :: st) n K I L R := by
  subst hp; intro H locs ls hW hS hl
  exact lv_isub C.1 C.2.1 hd (k H locs ls hW hS hl)
theorem w_imul (C : Cx Γ own cc nL ret rm nm) {x y : Int32} (hd : decode cc pc = .ok (.imul, 1))  (hp : pc + 1 = pc2) (k : wp Γ cells slots Q pc2 lo (.int (x * y) :: st) n K I L R) : wp Γ cells slots Q pc lo (.int y :: .int x :: st) n K I L R := by
  subst hp; intro H locs ls hW hS hl
  exact lv_imul C.1 C.2.1 hd (k H locs ls hW hS hl)
theorem w_iand (C : Cx Γ own cc nL ret rm nm) {x y : Int32} (hd : decode cc pc = .ok (.iand, 1))  (hp : pc + 1 = pc2) (k : wp Γ cells slots Q pc2 lo (.int (x &&& y) :: st) n K I L R) : wp Γ cells slots Q pc lo (.int y :: .int x :: st) n K I L R := by
  subst hp; intro H locs ls hW hS hl
  exact lv_iand C.1 C.2.1 hd (k H locs ls hW hS hl)
theorem w_ior (C : Cx Γ own cc nL ret rm nm) {x y : Int32} (hd : decode cc pc = .ok (.ior, 1))  (hp : pc + 1 = pc2) (k : wp Γ cells slots Q pc2 lo (.int (x ||| y) :: st) n K I L R) : wp Γ cells slots Q pc lo (.int y :: .int x :: st) n K I L R := by
  subst hp; intro H locs ls hW hS hl
  exact lv_ior C.1 C.2.1 hd (k H locs ls hW hS hl)
theorem w_ishl (C : Cx Γ own cc nL ret rm nm) {x y : Int32} (hd : decode cc pc = .ok (.ishl, 1))  (hp : pc + 1 = pc2) (k : wp Γ cells slots Q pc2 lo (.int (x <<< (y &&& 31)) :: st) n K I L R) : wp Γ cells slots Q pc lo (.int y :: .int x :: st) n K I L R := by
  subst hp; intro H locs ls hW hS hl
  exact lv_ishl C.1 C.2.1 hd (k H locs ls hW hS hl)
theorem w_ishr (C : Cx Γ own cc nL ret rm nm) {x y : Int32} (hd : decode cc pc = .ok (.ishr, 1))  (hp : pc + 1 = pc2) (k : wp Γ cells slots Q pc2 lo (.int (x >>> (y &&& 31)) :: st) n K I L R) : wp Γ cells slots Q pc lo (.int y :: .int x :: st) n K I L R := by
  subst hp; intro H locs ls hW hS hl
  exact lv_ishr C.1 C.2.1 hd (k H locs ls hW hS hl)
theorem w_idiv (C : Cx Γ own cc nL ret rm nm) {x y : Int32} (hd : decode cc pc = .ok (.idiv, 1)) (hne : ¬ y = 0) (hp : pc + 1 = pc2) (k : wp Γ cells slots Q pc2 lo (.int (x / y) :: st) n K I L R) : wp Γ cells slots Q pc lo (.int y :: .int x :: st) n K I L R := by
  subst hp; intro H locs ls hW hS hl
  exact lv_idiv C.1 C.2.1 hd hne (k H locs ls hW hS hl)
theorem w_irem (C : Cx Γ own cc nL ret rm nm) {x y : Int32} (hd : decode cc pc = .ok (.irem, 1)) (hne : ¬ y = 0) (hp : pc + 1 = pc2) (k : wp Γ cells slots Q pc2 lo (.int (x - x / y * y) :: st) n K I L R) : wp Γ cells slots Q pc lo (.int y :: .int x :: st) n K I L R := by
  subst hp; intro H locs ls hW hS hl
  exact lv_irem C.1 C.2.1 hd hne (k H locs ls hW hS hl)
theorem w_ineg (C : Cx Γ own cc nL ret rm nm) {x : Int32} (hd : decode cc pc = .ok (.ineg, 1))  (hp : pc + 1 = pc2) (k : wp Γ cells slots Q pc2 lo (.int (-x) :: st) n K I L R) : wp Γ cells slots Q pc lo (.int x :: st) n K I L R := by
  subst hp; intro H locs ls hW hS hl
  exact lv_ineg C.1 C.2.1 hd (k H locs ls hW hS hl)
theorem w_iushr (C : Cx Γ own cc nL ret rm nm) {x y : Int32} (hd : decode cc pc = .ok (.iushr, 1))  (hp : pc + 1 = pc2) (k : wp Γ cells slots Q pc2 lo (.int ((x.toUInt32 >>> (y.toUInt32 &&& Int32.toUInt32 31)).toInt32) :: st) n K I L R) : wp Γ cells slots Q pc lo (.int y :: .int x :: st) n K I L R := by
  subst hp; intro H locs ls hW hS hl
  exact lv_iushr C.1 C.2.1 hd rfl (k H locs ls hW hS hl)
theorem w_ladd (C : Cx Γ own cc nL ret rm nm) {x y : Int64} (hd : decode cc pc = .ok (.ladd, 1))  (hp : pc + 1 = pc2) (k : wp Γ cells slots Q pc2 lo (.long (x + y) :: st) n K I L R) : wp Γ cells slots Q pc lo (.long y :: .long x :: st) n K I L R := by
  subst hp; intro H locs ls hW hS hl
  exact lv_ladd C.1 C.2.1 hd (k H locs ls hW hS hl)
theorem w_lcmp (C : Cx Γ own cc nL ret rm nm) {x y : Int64} (hd : decode cc pc = .ok (.lcmp, 1))  (hp : pc + 1 = pc2) (k : wp Γ cells slots Q pc2 lo (.int (lg_cmp x y) :: st) n K I L R) : wp Γ cells slots Q pc lo (.long y :: .long x :: st) n K I L R := by
  subst hp; intro H locs ls hW hS hl
  exact W.lcmp C.1 C.2.1 hd (k H locs ls hW hS hl)
theorem w_i2l (C : Cx Γ own cc nL ret rm nm) {x : Int32} (hd : decode cc pc = .ok (.i2l, 1))  (hp : pc + 1 = pc2) (k : wp Γ cells slots Q pc2 lo (.long x.toInt64 :: st) n K I L R) : wp Γ cells slots Q pc lo (.int x :: st) n K I L R := by
  subst hp; intro H locs ls hW hS hl
  exact lv_i2l C.1 C.2.1 hd rfl (k H locs ls hW hS hl)
theorem w_i2b (C : Cx Γ own cc nL ret rm nm) {x : Int32} (hd : decode cc pc = .ok (.i2b, 1))  (hp : pc + 1 = pc2) (k : wp Γ cells slots Q pc2 lo (.int x.toInt8.toInt32 :: st) n K I L R) : wp Γ cells slots Q pc lo (.int x :: st) n K I L R := by
  subst hp; intro H locs ls hW hS hl
  exact lv_i2b C.1 C.2.1 hd rfl (k H locs ls hW hS hl)
theorem w_iconst (C : Cx Γ own cc nL ret rm nm) {i : Int} {v : Int32} (hd : decode cc pc = .ok (.iconst i, 1)) (hv : Int32.ofInt i = v) (hp : pc + 1 = pc2) (k : wp Γ cells slots Q pc2 lo (.int v :: st) n K I L R) : wp Γ cells slots Q pc lo (st) n K I L R := by
  subst hp; intro H locs ls hW hS hl
  exact lv_iconst C.1 C.2.1 hd hv (k H locs ls hW hS hl)
theorem w_lconst (C : Cx Γ own cc nL ret rm nm) {i : Fin 2} {v : Int64} (hd : decode cc pc = .ok (.lconst i, 1)) (hv : Int64.ofNat (i : Nat) = v) (hp : pc + 1 = pc2) (k : wp Γ cells slots Q pc2 lo (.long v :: st) n K I L R) : wp Γ cells slots Q pc lo (st) n K I L R := by
  subst hp; intro H locs ls hW hS hl
  exact lv_lconst C.1 C.2.1 hd hv (k H locs ls hW hS hl)
theorem w_bipush (C : Cx Γ own cc nL ret rm nm) {i : Int} {v : Int32} (hd : decode cc pc = .ok (.bipush i, 2)) (hv : (Int8.ofInt i).toInt32 = v) (hp : pc + 2 = pc2) (k : wp Γ cells slots Q pc2 lo (.int v :: st) n K I L R) : wp Γ cells slots Q pc lo (st) n K I L R := by
  subst hp; intro H locs ls hW hS hl
  exact lv_bipush C.1 C.2.1 hd hv (k H locs ls hW hS hl)
theorem w_sipush (C : Cx Γ own cc nL ret rm nm) {i : Int} {v : Int32} (hd : decode cc pc = .ok (.sipush i, 3)) (hv : (Int16.ofInt i).toInt32 = v) (hp : pc + 3 = pc2) (k : wp Γ cells slots Q pc2 lo (.int v :: st) n K I L R) : wp Γ cells slots Q pc lo (st) n K I L R := by
  subst hp; intro H locs ls hW hS hl
  exact lv_sipush C.1 C.2.1 hd hv (k H locs ls hW hS hl)
theorem w_ldc (C : Cx Γ own cc nL ret rm nm) {i : Nat} {v : Int32} (hd : decode cc pc = .ok (.ldc i, 2)) (hc : Cond.constant own i v ∈ tg) (hp : pc + 2 = pc2) (k : wp Γ cells slots Q pc2 lo (.int v :: st) n K I L R) : wp Γ cells slots Q pc lo (st) n K I L R := by
  subst hp; intro H locs ls hW hS hl
  exact lv_ldc C.1 C.2.1 C.2.2.2.2.1 (C.2.2.2.2.2.1 _ hc) hd (k H locs ls hW hS hl)
theorem w_ldc2 (C : Cx Γ own cc nL ret rm nm) {i : Nat} {v : Int64} (hd : decode cc pc = .ok (.ldc2_w i, 3)) (hc : Cond.constantLong own i v ∈ tg) (hp : pc + 3 = pc2) (k : wp Γ cells slots Q pc2 lo (.long v :: st) n K I L R) : wp Γ cells slots Q pc lo (st) n K I L R := by
  subst hp; intro H locs ls hW hS hl
  exact lv_ldc2 C.1 C.2.1 C.2.2.2.2.1 (C.2.2.2.2.2.1 _ hc) hd (k H locs ls hW hS hl)
theorem w_iload_n (C : Cx Γ own cc nL ret rm nm) {i : Fin 4} {x : Int32} (hd : decode cc pc = .ok (.iload_n i, 1)) (hv : lo[(i : Nat)]? = some (some (.int x))) (hp : pc + 1 = pc2) (k : wp Γ cells slots Q pc2 lo (.int x :: st) n K I L R) : wp Γ cells slots Q pc lo (st) n K I L R := by
  subst hp; intro H locs ls hW hS hl
  exact lv_iload_n C.1 C.2.1 hd rfl (hl.get hv) (k H locs ls hW hS hl)
theorem w_iload (C : Cx Γ own cc nL ret rm nm) {i : Nat} {x : Int32} (hd : decode cc pc = .ok (.iload i, 2)) (hv : lo[i]? = some (some (.int x))) (hp : pc + 2 = pc2) (k : wp Γ cells slots Q pc2 lo (.int x :: st) n K I L R) : wp Γ cells slots Q pc lo (st) n K I L R := by
  subst hp; intro H locs ls hW hS hl
  exact lv_iload C.1 C.2.1 hd (hl.get hv) (k H locs ls hW hS hl)
theorem w_lload_n (C : Cx Γ own cc nL ret rm nm) {i : Fin 4} {x : Int64} (hd : decode cc pc = .ok (.lload_n i, 1)) (hv : lo[(i : Nat)]? = some (some (.long x))) (hp : pc + 1 = pc2) (k : wp Γ cells slots Q pc2 lo (.long x :: st) n K I L R) : wp Γ cells slots Q pc lo (st) n K I L R := by
  subst hp; intro H locs ls hW hS hl
  exact lv_lload_n C.1 C.2.1 hd rfl (hl.get hv) (k H locs ls hW hS hl)
theorem w_aload_n (C : Cx Γ own cc nL ret rm nm) {i : Fin 4} {x : Nat} (hd : decode cc pc = .ok (.aload_n i, 1)) (hv : lo[(i : Nat)]? = some (some (.ref x))) (hp : pc + 1 = pc2) (k : wp Γ cells slots Q pc2 lo (.ref x :: st) n K I L R) : wp Γ cells slots Q pc lo (st) n K I L R := by
  subst hp; intro H locs ls hW hS hl
  exact lv_aload_n C.1 C.2.1 hd rfl (hl.get hv) (k H locs ls hW hS hl)
theorem w_aload_nx (C : Cx Γ own cc nL ret rm nm) {i : Fin 4} {x : Nat} (hd : decode cc pc = .ok (.aload_n i, 1)) (hv : lo[(i : Nat)]? = some (some (.retAddr x))) (hp : pc + 1 = pc2) (k : wp Γ cells slots Q pc2 lo (.retAddr x :: st) n K I L R) : wp Γ cells slots Q pc lo (st) n K I L R := by
  subst hp; intro H locs ls hW hS hl
  exact lv_aload_n C.1 C.2.1 hd rfl (hl.get hv) (k H locs ls hW hS hl)
theorem w_dup (C : Cx Γ own cc nL ret rm nm) {v : Value} (hd : decode cc pc = .ok (.dup, 1)) (hc : v.category = 1) (hp : pc + 1 = pc2) (k : wp Γ cells slots Q pc2 lo (v :: v :: st) n K I L R) : wp Γ cells slots Q pc lo (v :: st) n K I L R := by
  subst hp; intro H locs ls hW hS hl
  exact lv_dup C.1 C.2.1 hd ((cv_cat _ v).trans hc) (k H locs ls hW hS hl)
theorem w_dup2 (C : Cx Γ own cc nL ret rm nm) {v u : Value} (hd : decode cc pc = .ok (.dup2, 1)) (hc : v.category = 1) (hc2 : u.category = 1) (hp : pc + 1 = pc2) (k : wp Γ cells slots Q pc2 lo (v :: u :: v :: u :: st) n K I L R) : wp Γ cells slots Q pc lo (v :: u :: st) n K I L R := by
  subst hp; intro H locs ls hW hS hl
  exact lv_dup2_11 C.1 C.2.1 hd ((cv_cat _ v).trans hc) ((cv_cat _ u).trans hc2) (k H locs ls hW hS hl)
theorem w_pop (C : Cx Γ own cc nL ret rm nm) {v : Value} (hd : decode cc pc = .ok (.pop, 1)) (hc : v.category = 1) (hp : pc + 1 = pc2) (k : wp Γ cells slots Q pc2 lo (st) n K I L R) : wp Γ cells slots Q pc lo (v :: st) n K I L R := by
  subst hp; intro H locs ls hW hS hl
  exact lv_pop C.1 C.2.1 hd ((cv_cat _ v).trans hc) (k H locs ls hW hS hl)
theorem w_if_eq (C : Cx Γ own cc nL ret rm nm) {x : Int32} {off : Int} {tgt : Nat} (hd : decode cc pc = .ok (.ifCond .eq off, 3)) (ht : (pc : Int) + off = (tgt : Int)) (hp : pc + 3 = pc2) (kt : (x = 0) → wp Γ cells slots Q tgt lo st n K I L R) (kf : (¬ (x = 0)) → wp Γ cells slots Q pc2 lo st n K I L R) : wp Γ cells slots Q pc lo (.int x :: st) n K I L R := by
  subst hp; intro H locs ls hW hS hl
  exact lv_if_eq C.1 C.2.1 hd ht (fun c => kt c H locs ls hW hS hl) (fun c => kf c H locs ls hW hS hl)
theorem w_if_ne (C : Cx Γ own cc nL ret rm nm) {x : Int32} {off : Int} {tgt : Nat} (hd : decode cc pc = .ok (.ifCond .ne off, 3)) (ht : (pc : Int) + off = (tgt : Int)) (hp : pc + 3 = pc2) (kt : (¬ x = 0) → wp Γ cells slots Q tgt lo st n K I L R) (kf : (x = 0) → wp Γ cells slots Q pc2 lo st n K I L R) : wp Γ cells slots Q pc lo (.int x :: st) n K I L R := by
  subst hp; intro H locs ls hW hS hl
  exact lv_if_ne C.1 C.2.1 hd ht (fun c => kt c H locs ls hW hS hl) (fun c => kf c H locs ls hW hS hl)
theorem w_if_lt (C : Cx Γ own cc nL ret rm nm) {x : Int32} {off : Int} {tgt : Nat} (hd : decode cc pc = .ok (.ifCond .lt off, 3)) (ht : (pc : Int) + off = (tgt : Int)) (hp : pc + 3 = pc2) (kt : (x < 0) → wp Γ cells slots Q tgt lo st n K I L R) (kf : (¬ (x < 0)) → wp Γ cells slots Q pc2 lo st n K I L R) : wp Γ cells slots Q pc lo (.int x :: st) n K I L R := by
  subst hp; intro H locs ls hW hS hl
  exact lv_if_lt C.1 C.2.1 hd ht (fun c => kt c H locs ls hW hS hl) (fun c => kf c H locs ls hW hS hl)
theorem w_if_ge (C : Cx Γ own cc nL ret rm nm) {x : Int32} {off : Int} {tgt : Nat} (hd : decode cc pc = .ok (.ifCond .ge off, 3)) (ht : (pc : Int) + off = (tgt : Int)) (hp : pc + 3 = pc2) (kt : (0 ≤ x) → wp Γ cells slots Q tgt lo st n K I L R) (kf : (¬ (0 ≤ x)) → wp Γ cells slots Q pc2 lo st n K I L R) : wp Γ cells slots Q pc lo (.int x :: st) n K I L R := by
  subst hp; intro H locs ls hW hS hl
  exact lv_if_ge C.1 C.2.1 hd ht (fun c => kt c H locs ls hW hS hl) (fun c => kf c H locs ls hW hS hl)
theorem w_if_gt (C : Cx Γ own cc nL ret rm nm) {x : Int32} {off : Int} {tgt : Nat} (hd : decode cc pc = .ok (.ifCond .gt off, 3)) (ht : (pc : Int) + off = (tgt : Int)) (hp : pc + 3 = pc2) (kt : (0 < x) → wp Γ cells slots Q tgt lo st n K I L R) (kf : (¬ (0 < x)) → wp Γ cells slots Q pc2 lo st n K I L R) : wp Γ cells slots Q pc lo (.int x :: st) n K I L R := by
  subst hp; intro H locs ls hW hS hl
  exact lv_if_gt C.1 C.2.1 hd ht (fun c => kt c H locs ls hW hS hl) (fun c => kf c H locs ls hW hS hl)
theorem w_if_le (C : Cx Γ own cc nL ret rm nm) {x : Int32} {off : Int} {tgt : Nat} (hd : decode cc pc = .ok (.ifCond .le off, 3)) (ht : (pc : Int) + off = (tgt : Int)) (hp : pc + 3 = pc2) (kt : (x ≤ 0) → wp Γ cells slots Q tgt lo st n K I L R) (kf : (¬ (x ≤ 0)) → wp Γ cells slots Q pc2 lo st n K I L R) : wp Γ cells slots Q pc lo (.int x :: st) n K I L R := by
  subst hp; intro H locs ls hW hS hl
  exact lv_if_le C.1 C.2.1 hd ht (fun c => kt c H locs ls hW hS hl) (fun c => kf c H locs ls hW hS hl)
theorem w_icmp_eq (C : Cx Γ own cc nL ret rm nm) {x y : Int32} {off : Int} {tgt : Nat} (hd : decode cc pc = .ok (.if_icmp .eq off, 3)) (ht : (pc : Int) + off = (tgt : Int)) (hp : pc + 3 = pc2) (kt : (x = y) → wp Γ cells slots Q tgt lo st n K I L R) (kf : (¬ (x = y)) → wp Γ cells slots Q pc2 lo st n K I L R) : wp Γ cells slots Q pc lo (.int y :: .int x :: st) n K I L R := by
  subst hp; intro H locs ls hW hS hl
  exact lv_icmp_eq C.1 C.2.1 hd ht (fun c => kt c H locs ls hW hS hl) (fun c => kf c H locs ls hW hS hl)
theorem w_icmp_ne (C : Cx Γ own cc nL ret rm nm) {x y : Int32} {off : Int} {tgt : Nat} (hd : decode cc pc = .ok (.if_icmp .ne off, 3)) (ht : (pc : Int) + off = (tgt : Int)) (hp : pc + 3 = pc2) (kt : (¬ x = y) → wp Γ cells slots Q tgt lo st n K I L R) (kf : (x = y) → wp Γ cells slots Q pc2 lo st n K I L R) : wp Γ cells slots Q pc lo (.int y :: .int x :: st) n K I L R := by
  subst hp; intro H locs ls hW hS hl
  exact lv_icmp_ne C.1 C.2.1 hd ht (fun c => kt c H locs ls hW hS hl) (fun c => kf c H locs ls hW hS hl)
theorem w_icmp_lt (C : Cx Γ own cc nL ret rm nm) {x y : Int32} {off : Int} {tgt : Nat} (hd : decode cc pc = .ok (.if_icmp .lt off, 3)) (ht : (pc : Int) + off = (tgt : Int)) (hp : pc + 3 = pc2) (kt : (x < y) → wp Γ cells slots Q tgt lo st n K I L R) (kf : (¬ (x < y)) → wp Γ cells slots Q pc2 lo st n K I L R) : wp Γ cells slots Q pc lo (.int y :: .int x :: st) n K I L R := by
  subst hp; intro H locs ls hW hS hl
  exact lv_icmp_lt C.1 C.2.1 hd ht (fun c => kt c H locs ls hW hS hl) (fun c => kf c H locs ls hW hS hl)
theorem w_icmp_ge (C : Cx Γ own cc nL ret rm nm) {x y : Int32} {off : Int} {tgt : Nat} (hd : decode cc pc = .ok (.if_icmp .ge off, 3)) (ht : (pc : Int) + off = (tgt : Int)) (hp : pc + 3 = pc2) (kt : (y ≤ x) → wp Γ cells slots Q tgt lo st n K I L R) (kf : (¬ (y ≤ x)) → wp Γ cells slots Q pc2 lo st n K I L R) : wp Γ cells slots Q pc lo (.int y :: .int x :: st) n K I L R := by
  subst hp; intro H locs ls hW hS hl
  exact lv_icmp_ge C.1 C.2.1 hd ht (fun c => kt c H locs ls hW hS hl) (fun c => kf c H locs ls hW hS hl)
theorem w_icmp_gt (C : Cx Γ own cc nL ret rm nm) {x y : Int32} {off : Int} {tgt : Nat} (hd : decode cc pc = .ok (.if_icmp .gt off, 3)) (ht : (pc : Int) + off = (tgt : Int)) (hp : pc + 3 = pc2) (kt : (y < x) → wp Γ cells slots Q tgt lo st n K I L R) (kf : (¬ (y < x)) → wp Γ cells slots Q pc2 lo st n K I L R) : wp Γ cells slots Q pc lo (.int y :: .int x :: st) n K I L R := by
  subst hp; intro H locs ls hW hS hl
  exact lv_icmp_gt C.1 C.2.1 hd ht (fun c => kt c H locs ls hW hS hl) (fun c => kf c H locs ls hW hS hl)
theorem w_icmp_le (C : Cx Γ own cc nL ret rm nm) {x y : Int32} {off : Int} {tgt : Nat} (hd : decode cc pc = .ok (.if_icmp .le off, 3)) (ht : (pc : Int) + off = (tgt : Int)) (hp : pc + 3 = pc2) (kt : (x ≤ y) → wp Γ cells slots Q tgt lo st n K I L R) (kf : (¬ (x ≤ y)) → wp Γ cells slots Q pc2 lo st n K I L R) : wp Γ cells slots Q pc lo (.int y :: .int x :: st) n K I L R := by
  subst hp; intro H locs ls hW hS hl
  exact lv_icmp_le C.1 C.2.1 hd ht (fun c => kt c H locs ls hW hS hl) (fun c => kf c H locs ls hW hS hl)
theorem w_goto (C : Cx Γ own cc nL ret rm nm) {off : Int} {tgt : Nat} (hd : decode cc pc = .ok (.goto off, 3)) (ht : (pc : Int) + off = (tgt : Int)) (k : wp Γ cells slots Q tgt lo st n K I L R) : wp Γ cells slots Q pc lo st n K I L R := by
  intro H locs ls hW hS hl
  exact lv_goto C.1 C.2.1 hd ht (k H locs ls hW hS hl)
theorem w_ifnonnull (C : Cx Γ own cc nL ret rm nm) {x : Nat} {off : Int} {tgt : Nat} (hd : decode cc pc = .ok (.ifnonnull off, 3)) (ht : (pc : Int) + off = (tgt : Int)) (k : wp Γ cells slots Q tgt lo st n K I L R) : wp Γ cells slots Q pc lo (.ref x :: st) n K I L R := by
  intro H locs ls hW hS hl
  exact lv_ifnonnull C.1 C.2.1 hd ht (k H locs ls hW hS hl)
theorem w_ifnonnullN (C : Cx Γ own cc nL ret rm nm) {off : Int} (hd : decode cc pc = .ok (.ifnonnull off, 3)) (hp : pc + 3 = pc2) (k : wp Γ cells slots Q pc2 lo st n K I L R) : wp Γ cells slots Q pc lo (.null :: st) n K I L R := by
  subst hp; intro H locs ls hW hS hl
  exact lv_ifnonnullN C.1 C.2.1 hd (k H locs ls hW hS hl)
theorem w_tableIn (C : Cx Γ own cc nL ret rm nm) {dflt lo2 hi : Int} {offs : Array Int} {len : Nat} {x : Int32} {off : Int} {tgt : Nat} (hd : decode cc pc = .ok (.tableswitch dflt lo2 hi offs, len)) (h1 : ¬ x.toInt < lo2) (h2 : ¬ hi < x.toInt) (ho : offs[(x.toInt - lo2).toNat]? = some off) (ht : (pc : Int) + off = (tgt : Int)) (k : wp Γ cells slots Q tgt lo st n K I L R) : wp Γ cells slots Q pc lo (.int x :: st) n K I L R := by
  intro H locs ls hW hS hl
  exact lv_tableIn C.1 C.2.1 hd h1 h2 ho ht (k H locs ls hW hS hl)
theorem w_tableOut (C : Cx Γ own cc nL ret rm nm) {dflt lo2 hi : Int} {offs : Array Int} {len : Nat} {x : Int32} {tgt : Nat} (hd : decode cc pc = .ok (.tableswitch dflt lo2 hi offs, len)) (h : x.toInt < lo2 ∨ hi < x.toInt) (ht : (pc : Int) + dflt = (tgt : Int)) (k : wp Γ cells slots Q tgt lo st n K I L R) : wp Γ cells slots Q pc lo (.int x :: st) n K I L R := by
  intro H locs ls hW hS hl
  exact lv_tableOut C.1 C.2.1 hd h ht (k H locs ls hW hS hl)
theorem w_lookup (C : Cx Γ own cc nL ret rm nm) {dflt : Int} {ps : Array (Int × Int)} {len : Nat} {x : Int32} {off : Int} {tgt : Nat} (hd : decode cc pc = .ok (.lookupswitch dflt ps, len)) (h1 : (ps.toList.zip (ps.toList.drop 1)).all (fun (a, next) => a.1 < next.1) = true) (ho : Op.lookupswitch.offset ps.toList dflt x.toInt = off) (ht : (pc : Int) + off = (tgt : Int)) (k : wp Γ cells slots Q tgt lo st n K I L R) : wp Γ cells slots Q pc lo (.int x :: st) n K I L R := by
  intro H locs ls hW hS hl
  exact lv_lookup C.1 C.2.1 hd h1 ho ht (k H locs ls hW hS hl)
theorem w_istore_n (C : Cx Γ own cc nL ret rm nm) {i : Fin 4} {x : Int32} {lo2 : List (Option Value)} (hd : decode cc pc = .ok (.istore_n i, 1)) (hn : noL lo = true) (hi : (i : Nat) < nL) (hlo : lo.set (i : Nat) (some (.int x)) = lo2) (hp : pc + 1 = pc2) (k : wp Γ cells slots Q pc2 lo2 st n K I L R) : wp Γ cells slots Q pc lo (.int x :: st) n K I L R := by
  subst hp; subst hlo; intro H locs ls hW hS hl
  exact lv_istore_n C.1 C.2.1 hd rfl hl (by rw [C.2.2.2.1]; exact hi) rfl (fun ls2 h2 => k H locs ls2 hW hS (lh.sto (ls := ls) hn h2))
theorem w_istore (C : Cx Γ own cc nL ret rm nm) {i : Nat} {x : Int32} {lo2 : List (Option Value)} (hd : decode cc pc = .ok (.istore i, 2)) (hn : noL lo = true) (hi : i < nL) (hlo : lo.set i (some (.int x)) = lo2) (hp : pc + 2 = pc2) (k : wp Γ cells slots Q pc2 lo2 st n K I L R) : wp Γ cells slots Q pc lo (.int x :: st) n K I L R := by
  subst hp; subst hlo; intro H locs ls hW hS hl
  exact lv_istore C.1 C.2.1 hd hl (by rw [C.2.2.2.1]; exact hi) rfl (fun ls2 h2 => k H locs ls2 hW hS (lh.sto (ls := ls) hn h2))
theorem w_astore_n (C : Cx Γ own cc nL ret rm nm) {i : Fin 4} {x : Nat} {lo2 : List (Option Value)} (hd : decode cc pc = .ok (.astore_n i, 1)) (hn : noL lo = true) (hi : (i : Nat) < nL) (hlo : lo.set (i : Nat) (some (.ref x)) = lo2) (hp : pc + 1 = pc2) (k : wp Γ cells slots Q pc2 lo2 st n K I L R) : wp Γ cells slots Q pc lo (.ref x :: st) n K I L R := by
  subst hp; subst hlo; intro H locs ls hW hS hl
  exact lv_astore_n C.1 C.2.1 hd rfl hl (by rw [C.2.2.2.1]; exact hi) rfl (fun ls2 h2 => k H locs ls2 hW hS (lh.sto (ls := ls) hn h2))
theorem w_lstore_n (C : Cx Γ own cc nL ret rm nm) {i : Fin 4} {x : Int64} {lo2 : List (Option Value)} (hd : decode cc pc = .ok (.lstore_n i, 1)) (hn : noL lo = true) (hi : (i : Nat) + 1 < nL) (hlo : (lo.set (i : Nat) (some (.long x))).set ((i : Nat) + 1) none = lo2) (hp : pc + 1 = pc2) (k : wp Γ cells slots Q pc2 lo2 st n K I L R) : wp Γ cells slots Q pc lo (.long x :: st) n K I L R := by
  subst hp; subst hlo; intro H locs ls hW hS hl
  exact lv_lstore_n C.1 C.2.1 hd rfl hl (by rw [C.2.2.2.1]; exact hi) rfl (fun ls2 h2 => k H locs ls2 hW hS (lh.stoL (ls := ls) hn h2))
theorem w_iinc (C : Cx Γ own cc nL ret rm nm) {i : Nat} {d : Int} {x v : Int32} {lo2 : List (Option Value)} (hd : decode cc pc = .ok (.iinc i d, 3)) (hx : lo[i]? = some (some (.int x))) (hv : x + Int32.ofInt d = v) (hn : noL lo = true) (hi : i < nL) (hlo : lo.set i (some (.int v)) = lo2) (hp : pc + 3 = pc2) (k : wp Γ cells slots Q pc2 lo2 st n K I L R) : wp Γ cells slots Q pc lo st n K I L R := by
  subst hp; subst hlo; intro H locs ls hW hS hl
  obtain ⟨q, hq⟩ := List.getElem?_of_mem ((lps_mem (gz Γ) lo 0 (0 + i, cv (gz Γ) (.int x))).mpr ⟨i, _, hx, rfl⟩)
  rw [Nat.zero_add] at hq
  exact lv_iinc C.1 C.2.1 hd hl hq hv (by rw [C.2.2.2.1]; exact hi) rfl (fun ls2 h2 => k H locs ls2 hW hS (lh.sto (ls := ls) hn h2))
theorem w_less {lo2 : List (Option Value)} (hs : ∀ (j : Nat) (v : Value), lo2[j]? = some (some v) → lo[j]? = some (some v)) (k : wp Γ cells slots Q pc lo2 st n K I L R) : wp Γ cells slots Q pc lo st n K I L R := fun H locs ls hW hS hl => k H locs ls hW hS (hl.less hs)
theorem w_widen {c2 s2 : Nat} (h1 : cells ≤ c2) (h2 : slots ≤ s2) (k : wp Γ c2 s2 Q pc lo st n K I L R) : wp Γ cells slots Q pc lo st n K I L R := fun H locs ls hW hS hl => W.widen h1 h2 (k H locs ls hW hS hl)
end RULES
end
section
/-! ===== rules for the heap ===== -/
/-- a class of the world, with its rows of the tables -/
def ClOK (ci : Nat) (C : String) (T : u_T) (N : Nat) (ty : Nat → FieldType) : Prop := vwCl[ci]? = some (C, T, N) ∧ (∀ w ∈ u_ws C T N, w ∈ tg) ∧ (∀ k, k < N → parseFieldDescriptor (T k).2.2.1 = some (ty k)) ∧ (∀ a, a < N → ∀ b, b < N → a ≠ b → (T a).2.1 ≠ (T b).2.1) ∧ ci < 100 ∧ (FK ci).length = N
/-- entry idx of own's pool is field k of class ci; f: 1 a reference (final), 0 a number -/
def FLk (own : String) (idx ci k f : Nat) (ty : FieldType) : Prop := ∃ (C : String) (T : u_T) (N : Nat) (tyf : Nat → FieldType), ClOK ci C T N tyf ∧ k < N ∧ Cond.fieldLink own idx (T k).1 (T k).2.1 (T k).2.2.1 ∈ tg ∧ (FK ci)[k]? = some f ∧ parseFieldDescriptor (T k).2.2.1 = some ty ∧ (T k).2.2.2 = (f == 1) ∧ (T k).1 = C
theorem cel_o {cT : Nat → ClassId} {z : Nat} {κ : Nat × Nat} {I : Nat → Int32} {L : Nat → Int64} {R : Nat → Option Nat} {ci m : Nat} (h : κ = (ci, m)) (hc : ci < 100) : cel cT z κ I L R = .inr (ci, flds z I R (FK ci) 0) := by
  subst h; simp [cel, hc]
theorem cel_i {cT : Nat → ClassId} {z : Nat} {κ : Nat × Nat} {I : Nat → Int32} {L : Nat → Int64} {R : Nat → Option Nat} {t m : Nat} (h : κ = (t, m)) (h1 : 100 ≤ t) (h2 : t < 103) : cel cT z κ I L R = .inl (cT t, m, .inl I) := by
  subst h; simp [cel, h2, Nat.not_lt.mpr h1]
theorem cel_l {cT : Nat → ClassId} {z : Nat} {κ : Nat × Nat} {I : Nat → Int32} {L : Nat → Int64} {R : Nat → Option Nat} {m : Nat} (h : κ = (103, m)) : cel cT z κ I L R = .inl (cT 103, m, .inr (.inl L)) := by
  subst h; simp [cel]
theorem cel_r {cT : Nat → ClassId} {z : Nat} {κ : Nat × Nat} {I : Nat → Int32} {L : Nat → Int64} {R : Nat → Option Nat} {t m : Nat} (h : κ = (t, m)) (h1 : 104 ≤ t) : cel cT z κ I L R = .inl (cT t, m, .inr (.inr (.inr (.inr (fun j => zo z (R j)))))) := by
  subst h; simp [cel, show ¬ t < 100 by omega, show ¬ t < 103 by omega, show ¬ t = 103 by omega]
/-- one cell has new contents, all else stays -/
theorem HW.put {D : va_G} {cT : Nat → ClassId} {z n i : Nat} {K : wKd} {I I2 : wIn} {L L2 : wLn} {R R2 : wRf} {H H1 : Heap} (h : HW D cT z n K I L R H) (hz : H1.size = H.size) (ho : ∀ q, q ≠ z + i → H1[q]? = H[q]?) (hat : va_at D vwCl (z + i, cel cT z (K i) (I2 i) (L2 i) (R2 i)) H1) (hs : ∀ j, j ≠ i → I2 j = I j ∧ L2 j = L j ∧ R2 j = R j) : HW D cT z n K I2 L2 R2 H1 := by
  refine ⟨by rw [hz]; exact h.1, h.2.1, fun k q hk => ?_⟩
  obtain ⟨hkn, rfl⟩ := wl_at hk
  by_cases e : k = i
  · subst e; exact hat
  · obtain ⟨h1, h2, h3⟩ := hs k e
    rw [h1, h2, h3]
    exact (h.2.2 k _ (wl_get hkn)).kept (ho _ (by show z + k ≠ z + i; omega))
theorem va_S.put2 {A : Nat → Prop} {H0 H H1 : Heap} {locs : List Loc} {a k : Nat} (h : va_S A H0 H locs) (z : H1.size = H.size) (oq : ∀ q : Nat, q ≠ a → H1[q]? = H[q]?) (ha : A a) : va_S A H0 H1 (locs ++ [⟨a, k⟩]) := h.put z oq ha
section HEAP
variable {Γ : Gm} {own : String} {cc : ByteArray} {nL : Nat} {ret : Option FieldType} {rm : Room} {nm : String} {cells slots pc pc2 : Nat} {Q : State → Prop} {lo : List (Option Value)} {st : List Value} {n : Nat} {K : wKd} {I : wIn} {L : wLn} {R : wRf}
theorem w_getI (C : Cx Γ own cc nL ret rm nm) {idx ci k i m : Nat} {ty : FieldType} (hd : decode cc pc = .ok (.getfield idx, 3)) (hf : FLk own idx ci k 0 ty) (hk : K i = (ci, m)) (hp : pc + 3 = pc2) (kk : wp Γ cells slots Q pc2 lo (.int (I i k) :: st) n K I L R) : wp Γ cells slots Q pc lo (.ref i :: st) n K I L R := by
  subst hp; intro H locs ls hW hS hl
  obtain ⟨Cn, T, N, tyf, ⟨h1, h2, h3, h4, h5, h6⟩, h7, h8, h9, h10, h11, h12⟩ := hf
  have hi : i < n := hW.lt hk (by show ci ≠ 999; omega)
  exact va_get (D := gD Γ) (ci := ci) (v := .int (I i k)) (C := Cn) (T := T) (N := N) C.1 C.2.1 C.2.2.2.2.2.1 h2 C.2.2.2.2.1 C.2.2.2.2.2.2.2.1.1 hW.2.2 i (by rw [wl_get hi, cel_o hk h5]) h1 k h7 (C.2.2.2.2.2.1 _ h8) (fun _ h => h) (by rw [flds_get _ _ _ _ _ _ _ h9]; simp) hd (kk H locs ls hW hS hl)
theorem w_getR (C : Cx Γ own cc nL ret rm nm) {idx ci k i m j : Nat} {ty : FieldType} (hd : decode cc pc = .ok (.getfield idx, 3)) (hf : FLk own idx ci k 1 ty) (hk : K i = (ci, m)) (hr : R i k = some j) (hp : pc + 3 = pc2) (kk : wp Γ cells slots Q pc2 lo (.ref j :: st) n K I L R) : wp Γ cells slots Q pc lo (.ref i :: st) n K I L R := by
  subst hp; intro H locs ls hW hS hl
  obtain ⟨Cn, T, N, tyf, ⟨h1, h2, h3, h4, h5, h6⟩, h7, h8, h9, h10, h11, h12⟩ := hf
  have hi : i < n := hW.lt hk (by show ci ≠ 999; omega)
  exact va_get (D := gD Γ) (ci := ci) (v := .ref (gz Γ + j)) (C := Cn) (T := T) (N := N) C.1 C.2.1 C.2.2.2.2.2.1 h2 C.2.2.2.2.1 C.2.2.2.2.2.2.2.1.1 hW.2.2 i (by rw [wl_get hi, cel_o hk h5]) h1 k h7 (C.2.2.2.2.2.1 _ h8) (fun _ h => h) (by rw [flds_get _ _ _ _ _ _ _ h9]; simp [hr, zo, va_rf]) hd (kk H locs ls hW hS hl)
theorem w_putI (C : Cx Γ own cc nL ret rm nm) {idx ci k i m : Nat} {x : Int32} {ty : FieldType} (hd : decode cc pc = .ok (.putfield idx, 3)) (hf : FLk own idx ci k 0 ty) (hk : K i = (ci, m)) (hn : narrow ty (.int x) = .int x) (hfit : fits ty (.int x) = true) (hp : pc + 3 = pc2) (kk : wp Γ cells slots Q pc2 lo st n K (up2 I i k x) L R) : wp Γ cells slots Q pc lo (.int x :: .ref i :: st) n K I L R := by
  subst hp; intro H locs ls hW hS hl
  obtain ⟨Cn, T, N, tyf, ⟨h1, h2, h3, h4, h5, h6⟩, h7, h8, h9, h10, h11, h12⟩ := hf
  have hi : i < n := hW.lt hk (by show ci ≠ 999; omega)
  have hts := C.2.2.2.2.2.1
  have hKK := C.2.2.2.2.2.2.2.1.1
  have hap := va_apart (own := own) hts h2 tyf h3 h4 hKK h1
  have hat := hW.2.2 i _ (wl_get hi)
  rw [cel_o hk h5] at hat
  obtain ⟨r, hr, cell, q1, q2, q3, q4⟩ := hat
  have hr : r = (Cn, T, N) := Option.some.inj (hr.symm.trans h1)
  subst hr
  obtain ⟨hSl, hfc, kC, hkC, hkind⟩ := hKK.1 ci _ h1
  obtain ⟨cf, kf, fi, f, hfi, hsl⟩ := hSl k h7
  have hlay := hts _ (h2 _ (u_in_lay h7))
  unfold u_lay at hlay
  rw [if_neg (by rw [h11]; decide)] at hlay
  have hst := (u_facts hfc hkC (u_lays hts h2 h7) hfi).1
  have hsd := u_store hfc hkC hkind hlay hfi h10 hn hfit
  refine W.putK C.1 C.2.1 (f := f) ⟨C.2.2.2.2.1, hts _ h8, ⟨_, _, _, hfi⟩, hst⟩ (by rw [q2]; exact hsd) q1 q3 (by rw [hsl]; exact k2_hasslot (q4 k h7)) rfl rfl hd fun H1 e1 e2 e3 => ?_
  rw [hsl] at e1 ⊢
  refine kk H1 _ ls (hW.put (i := i) e2 e3 ?_ (fun j hj => ⟨?_, rfl, rfl⟩)) (hS.put e2 e3 (Nat.le_add_right _ _)) hl
  · rw [cel_o hk h5]
    have hlen : k < (flds (gz Γ) (I i) (R i) (FK ci) 0).length := by rw [flds_len]; omega
    have hset := flds_setI (gz Γ) (I i) (up2 I i k x i) (R i) x (FK ci) 0 k h9 (by simp [up2]) (fun a ha => by simp [up2]; omega)
    refine ⟨_, h1, ?_⟩
    show t_OB _ _ _ _ _ (vp_V (flds _ _ _ _ _))
    rw [← hset]
    exact t_OB.to (V := updV (vp_V (flds (gz Γ) (I i) (R i) (FK ci) 0)) k (.int x)) ⟨_, e1, q2, q3, t_set q4 hap h7 _⟩ (fun j _ => vp_updV_set hlen _ j)
  · funext a; simp [up2, hj]
theorem w_putR (C : Cx Γ own cc nL ret rm nm) {idx ci k i m x : Nat} {ty : FieldType} (hd : decode cc pc = .ok (.putfield idx, 3)) (hf : FLk own idx ci k 1 ty) (hk : K i = (ci, m)) (hin : nm = "<init>") (hown : vwCl[ci]?.map (·.1) = some own) (hty : narrow ty (.ref (gz Γ + x)) = .ref (gz Γ + x)) (hfit : fits ty (.ref (gz Γ + x)) = true) (hp : pc + 3 = pc2) (kk : wp Γ cells slots Q pc2 lo st n K I L (up2 R i k (some x))) : wp Γ cells slots Q pc lo (.ref x :: .ref i :: st) n K I L R := by
  subst hp; intro H locs ls hW hS hl
  obtain ⟨Cn, T, N, tyf, ⟨h1, h2, h3, h4, h5, h6⟩, h7, h8, h9, h10, h11, h12⟩ := hf
  have hi : i < n := hW.lt hk (by show ci ≠ 999; omega)
  have hts := C.2.2.2.2.2.1
  have hKK := C.2.2.2.2.2.2.2.1.1
  have hap := va_apart (own := own) hts h2 tyf h3 h4 hKK h1
  have hat := hW.2.2 i _ (wl_get hi)
  rw [cel_o hk h5] at hat
  obtain ⟨r, hr, cell, q1, q2, q3, q4⟩ := hat
  have hr : r = (Cn, T, N) := Option.some.inj (hr.symm.trans h1)
  subst hr
  obtain ⟨hSl, hfc, kC, hkC, hkind⟩ := hKK.1 ci _ h1
  obtain ⟨cf, kf, fi, f, hfi, hsl⟩ := hSl k h7
  have hCo : Cn = own := by rw [h1] at hown; simpa using hown
  have hlay := hts _ (h2 _ (u_in_lay h7))
  unfold u_lay at hlay
  rw [if_pos (by rw [h11]; decide)] at hlay
  have hst := (u_facts hfc hkC (u_lays hts h2 h7) hfi).1
  have hcf : (gm Γ).cls = cf := by
    obtain ⟨_, _, c2, _, _, _, -, -, hf2, -, -, -, hown2, -⟩ := Cond.laysFinal_spec hlay
    have e1 : c2 = cf := by have := hfi.symm.trans hf2; simp at this; exact this.1.symm
    rw [h12, hCo] at hown2
    rw [← e1]; exact Option.some.inj (C.2.2.2.2.1.symm.trans hown2)
  have hsd := u_fits hfc hkC hkind (Or.inr hlay) hfi h10 hty hfit
  refine W.putFinK C.1 C.2.1 C.2.2.2.2.1 (hts _ h8) hfi hst hcf (by rw [C.2.2.2.2.2.2.2.2.2.1]; exact hin) (by rw [q2]; exact hsd) q1 q3 (by rw [hsl]; exact k2_hasslot (q4 k h7)) rfl rfl hd fun H1 e1 e2 e3 => ?_
  rw [hsl] at e1 ⊢
  refine kk H1 _ ls (hW.put (i := i) e2 e3 ?_ (fun j hj => ⟨rfl, rfl, ?_⟩)) (hS.put e2 e3 (Nat.le_add_right _ _)) hl
  · rw [cel_o hk h5]
    have hlen : k < (flds (gz Γ) (I i) (R i) (FK ci) 0).length := by rw [flds_len]; omega
    have hset := flds_setR (gz Γ) (I i) (R i) (up2 R i k (some x) i) (some x) (FK ci) 0 k h9 (by simp [up2]) (fun a ha => by simp [up2]; omega)
    refine ⟨_, h1, ?_⟩
    show t_OB _ _ _ _ _ (vp_V (flds _ _ _ _ _))
    rw [← hset]
    exact t_OB.to (V := updV (vp_V (flds (gz Γ) (I i) (R i) (FK ci) 0)) k (.ref (gz Γ + x))) ⟨_, e1, q2, q3, t_set q4 hap h7 _⟩ (fun j _ => vp_updV_set hlen _ j)
  · funext a; simp [up2, hj]
/-- array reads: the place j of the index x -/
theorem w_iald (C : Cx Γ own cc nL ret rm nm) {i m j : Nat} {x : Int32} (hd : decode cc pc = .ok (.iaload, 1)) (hk : K i = (100, m)) (hx : x = nI j) (hj : j < m) (hm : m < 2 ^ 31) (hp : pc + 1 = pc2) (kk : wp Γ cells slots Q pc2 lo (.int (I i j) :: st) n K I L R) : wp Γ cells slots Q pc lo (.int x :: .ref i :: st) n K I L R := by
  subst hp; subst hx; intro H locs ls hW hS hl
  have hi : i < n := hW.lt hk (by simp)
  have h := kk H locs ls hW hS hl
  refine va_iald (tys := tysOf (gT Γ)) C.1 C.2.1 C.2.2.2.2.2.2.2.1.1 hW.2.2 i 0 (by rw [wl_get hi, cel_i hk (by decide) (by decide)]) rfl (vp_in_nI hj hm) hd ?_
  rw [nI_clamp (by omega)]
  exact h
theorem w_bald (C : Cx Γ own cc nL ret rm nm) {i m j : Nat} {x : Int32} (hd : decode cc pc = .ok (.baload, 1)) (hk : K i = (101, m)) (hx : x = nI j) (hj : j < m) (hm : m < 2 ^ 31) (hp : pc + 1 = pc2) (kk : wp Γ cells slots Q pc2 lo (.int (I i j) :: st) n K I L R) : wp Γ cells slots Q pc lo (.int x :: .ref i :: st) n K I L R := by
  subst hp; subst hx; intro H locs ls hW hS hl
  have hi : i < n := hW.lt hk (by simp)
  have h := kk H locs ls hW hS hl
  refine va_bald (tys := tysOf (gT Γ)) C.1 C.2.1 C.2.2.2.2.2.2.2.1.1 hW.2.2 i 1 (by rw [wl_get hi, cel_i hk (by decide) (by decide)]) rfl (vp_in_nI hj hm) hd ?_
  rw [nI_clamp (by omega)]
  exact h
theorem w_zald (C : Cx Γ own cc nL ret rm nm) {i m j : Nat} {x : Int32} (hd : decode cc pc = .ok (.baload, 1)) (hk : K i = (102, m)) (hx : x = nI j) (hj : j < m) (hm : m < 2 ^ 31) (hp : pc + 1 = pc2) (kk : wp Γ cells slots Q pc2 lo (.int (I i j) :: st) n K I L R) : wp Γ cells slots Q pc lo (.int x :: .ref i :: st) n K I L R := by
  subst hp; subst hx; intro H locs ls hW hS hl
  have hi : i < n := hW.lt hk (by simp)
  have h := kk H locs ls hW hS hl
  refine va_zald (tys := tysOf (gT Γ)) C.1 C.2.1 C.2.2.2.2.2.2.2.1.1 hW.2.2 i 2 (by rw [wl_get hi, cel_i hk (by decide) (by decide)]) rfl (vp_in_nI hj hm) hd ?_
  rw [nI_clamp (by omega)]
  exact h
theorem w_lald (C : Cx Γ own cc nL ret rm nm) {i m j : Nat} {x : Int32} (hd : decode cc pc = .ok (.laload, 1)) (hk : K i = (103, m)) (hx : x = nI j) (hj : j < m) (hm : m < 2 ^ 31) (hp : pc + 1 = pc2) (kk : wp Γ cells slots Q pc2 lo (.long (L i j) :: st) n K I L R) : wp Γ cells slots Q pc lo (.int x :: .ref i :: st) n K I L R := by
  subst hp; subst hx; intro H locs ls hW hS hl
  have hi : i < n := hW.lt hk (by simp)
  have h := kk H locs ls hW hS hl
  refine va_lald (tys := tysOf (gT Γ)) C.1 C.2.1 C.2.2.2.2.2.2.2.1.1 hW.2.2 i 3 (by rw [wl_get hi, cel_l hk]) rfl (vp_in_nI hj hm) hd ?_
  rw [nI_clamp (by omega)]
  exact h
/-- arrays of references: Matters (104), int rows (105) -/
theorem w_aald (C : Cx Γ own cc nL ret rm nm) {i t m j : Nat} {x : Int32} (hd : decode cc pc = .ok (.aaload, 1)) (hk : K i = (t, m)) (ht : t = 104 ∨ t = 105) (hx : x = nI j) (hj : j < m) (hm : m < 2 ^ 31) (hp : pc + 1 = pc2) (kk : wp Γ cells slots Q pc2 lo (va_rf (R i j) :: st) n K I L R) : wp Γ cells slots Q pc lo (.int x :: .ref i :: st) n K I L R := by
  subst hp; subst hx; intro H locs ls hW hS hl
  have hi : i < n := hW.lt hk (by show t ≠ 999; omega)
  have h := kk H locs ls hW hS hl
  have hat := hW.2.2 i _ (wl_get hi)
  rw [cel_r hk (by omega)] at hat
  have hc : H[gz Γ + i]? = some (arrV (gT Γ t) m (fun j => va_rf (zo (gz Γ) (R i j)))) := hat
  have hK := C.2.2.2.2.2.2.2.1.1
  have hcl : (nI j).toNatClampNeg = j := nI_clamp (by omega)
  have harr : ∃ ty : FieldType, ty.isReference = true ∧ (gs Γ).isArrayOf (arrV (gT Γ t) m (fun j => va_rf (zo (gz Γ) (R i j)))) ty := by
    rcases ht with e | e
    · subst e; exact ⟨.object RX2, rfl, (hK.2 4 (gT Γ 104, .object RX2) rfl).1 m _⟩
    · subst e; exact ⟨.array .int, rfl, (hK.2 5 (gT Γ 105, .array .int) rfl).1 m _⟩
  obtain ⟨ty, hty, harr⟩ := harr
  refine W.aald (v := va_rf (zo (gz Γ) (R i j))) (ty := ty) C.1 C.2.1 hc harr hty (fun q => by cases q) (by rw [arrV_size]; exact vp_in_nI hj hm) (by rw [hcl, arrV_read _ _ hj]) rfl rfl hd ?_
  rw [cv_rf]
  exact h
/-- array writes -/
theorem w_iast (C : Cx Γ own cc nL ret rm nm) {i m j : Nat} {x y : Int32} (hd : decode cc pc = .ok (.iastore, 1)) (hk : K i = (100, m)) (hx : x = nI j) (hj : j < m) (hm : m < 2 ^ 31) (hp : pc + 1 = pc2) (kk : wp Γ cells slots Q pc2 lo st n K (up2 I i j y) L R) : wp Γ cells slots Q pc lo (.int y :: .int x :: .ref i :: st) n K I L R := by
  subst hp; subst hx; intro H locs ls hW hS hl
  have hi : i < n := hW.lt hk (by simp)
  have hat := hW.2.2 i _ (wl_get hi)
  rw [cel_i hk (by decide) (by decide)] at hat
  have hc : H[gz Γ + i]? = some (arrV (gT Γ 100) m (fun j => .int (I i j))) := hat
  have hK := C.2.2.2.2.2.2.2.1.1
  have hcl : (nI j).toNatClampNeg = j := nI_clamp (by omega)
  refine W.iast C.1 C.2.1 hc ((hK.2 0 (gT Γ 100, .int) rfl).1 m _) (fun q => by cases q) (by rw [arrV_size]; exact vp_in_nI hj hm) rfl rfl hd fun H1 e z oq => ?_
  refine kk H1 _ ls (hW.put (i := i) z oq ?_ (fun a ha => ⟨?_, rfl, rfl⟩)) (hS.put z oq (Nat.le_add_right _ _)) hl
  · rw [cel_i hk (by decide) (by decide)]
    show H1[gz Γ + i]? = some (vp_cell _ _)
    rw [e, vp_cell_i, arrV_store, hcl]
    congr 2
    funext q
    by_cases hq : q = j
    · subst hq; simp [updV, up2]
    · simp [updV, up2, hq]
  · funext b; simp [up2, ha]
theorem w_bast (C : Cx Γ own cc nL ret rm nm) {i m j : Nat} {x y : Int32} (hd : decode cc pc = .ok (.bastore, 1)) (hk : K i = (101, m)) (hx : x = nI j) (hj : j < m) (hm : m < 2 ^ 31) (hp : pc + 1 = pc2) (kk : wp Γ cells slots Q pc2 lo st n K (up2 I i j (vp_nar .byte y)) L R) : wp Γ cells slots Q pc lo (.int y :: .int x :: .ref i :: st) n K I L R := by
  subst hp; subst hx; intro H locs ls hW hS hl
  have hi : i < n := hW.lt hk (by simp)
  have hat := hW.2.2 i _ (wl_get hi)
  rw [cel_i hk (by decide) (by decide)] at hat
  have hc : H[gz Γ + i]? = some (arrV (gT Γ 101) m (fun j => .int (I i j))) := hat
  have hK := C.2.2.2.2.2.2.2.1.1
  have hcl : (nI j).toNatClampNeg = j := nI_clamp (by omega)
  refine W.bast C.1 C.2.1 hc ((hK.2 1 (gT Γ 101, .byte) rfl).1 m _) (fun q => by cases q) (by rw [arrV_size]; exact vp_in_nI hj hm) rfl rfl hd fun H1 e z oq => ?_
  refine kk H1 _ ls (hW.put (i := i) z oq ?_ (fun a ha => ⟨?_, rfl, rfl⟩)) (hS.put z oq (Nat.le_add_right _ _)) hl
  · rw [cel_i hk (by decide) (by decide)]
    show H1[gz Γ + i]? = some (vp_cell _ _)
    rw [e, vp_cell_i, arrV_store, hcl]
    congr 2
    funext q
    by_cases hq : q = j
    · subst hq; simp [updV, up2, vp_nar]; try rfl
    · simp [updV, up2, hq]
  · funext b; simp [up2, ha]
theorem w_zast (C : Cx Γ own cc nL ret rm nm) {i m j : Nat} {x y : Int32} (hd : decode cc pc = .ok (.bastore, 1)) (hk : K i = (102, m)) (hx : x = nI j) (hj : j < m) (hm : m < 2 ^ 31) (hp : pc + 1 = pc2) (kk : wp Γ cells slots Q pc2 lo st n K (up2 I i j (vp_nar .boolean y)) L R) : wp Γ cells slots Q pc lo (.int y :: .int x :: .ref i :: st) n K I L R := by
  subst hp; subst hx; intro H locs ls hW hS hl
  have hi : i < n := hW.lt hk (by simp)
  have hat := hW.2.2 i _ (wl_get hi)
  rw [cel_i hk (by decide) (by decide)] at hat
  have hc : H[gz Γ + i]? = some (arrV (gT Γ 102) m (fun j => .int (I i j))) := hat
  have hK := C.2.2.2.2.2.2.2.1.1
  have hcl : (nI j).toNatClampNeg = j := nI_clamp (by omega)
  refine W.zast C.1 C.2.1 hc ((hK.2 2 (gT Γ 102, .boolean) rfl).1 m _) (fun q => by cases q) (by rw [arrV_size]; exact vp_in_nI hj hm) rfl rfl hd fun H1 e z oq => ?_
  refine kk H1 _ ls (hW.put (i := i) z oq ?_ (fun a ha => ⟨?_, rfl, rfl⟩)) (hS.put z oq (Nat.le_add_right _ _)) hl
  · rw [cel_i hk (by decide) (by decide)]
    show H1[gz Γ + i]? = some (vp_cell _ _)
    rw [e, vp_cell_i, arrV_store, hcl]
    congr 2
    funext q
    by_cases hq : q = j
    · subst hq; simp [updV, up2, vp_nar]; try rfl
    · simp [updV, up2, hq]
  · funext b; simp [up2, ha]
theorem w_last (C : Cx Γ own cc nL ret rm nm) {i m j : Nat} {x : Int32} {y : Int64} (hd : decode cc pc = .ok (.lastore, 1)) (hk : K i = (103, m)) (hx : x = nI j) (hj : j < m) (hm : m < 2 ^ 31) (hp : pc + 1 = pc2) (kk : wp Γ cells slots Q pc2 lo st n K I (up2 L i j y) R) : wp Γ cells slots Q pc lo (.long y :: .int x :: .ref i :: st) n K I L R := by
  subst hp; subst hx; intro H locs ls hW hS hl
  have hi : i < n := hW.lt hk (by simp)
  have hat := hW.2.2 i _ (wl_get hi)
  rw [cel_l hk] at hat
  have hc : H[gz Γ + i]? = some (arrV (gT Γ 103) m (fun j => .long (L i j))) := hat
  have hK := C.2.2.2.2.2.2.2.1.1
  have hcl : (nI j).toNatClampNeg = j := nI_clamp (by omega)
  refine W.last C.1 C.2.1 hc ((hK.2 3 (gT Γ 103, .long) rfl).1 m _) (fun q => by cases q) (by rw [arrV_size]; exact vp_in_nI hj hm) rfl rfl hd fun H1 e z oq => ?_
  refine kk H1 _ ls (hW.put (i := i) z oq ?_ (fun a ha => ⟨rfl, ?_, rfl⟩)) (hS.put z oq (Nat.le_add_right _ _)) hl
  · rw [cel_l hk]
    show H1[gz Γ + i]? = some (vp_cell _ _)
    rw [e, vp_cell_l, arrV_store, hcl]
    congr 2
    funext q
    by_cases hq : q = j
    · subst hq; simp [updV, up2]
    · simp [updV, up2, hq]
  · funext b; simp [up2, ha]
/-- a Matter into the array of Matters -/
theorem w_aast (C : Cx Γ own cc nL ret rm nm) {i m j v m2 : Nat} {x : Int32} (hd : decode cc pc = .ok (.aastore, 1)) (hk : K i = (104, m)) (hkv : K v = (2, m2)) (hx : x = nI j) (hj : j < m) (hm : m < 2 ^ 31) (hp : pc + 1 = pc2) (kk : wp Γ cells slots Q pc2 lo st n K I L (up2 R i j (some v))) : wp Γ cells slots Q pc lo (.ref v :: .int x :: .ref i :: st) n K I L R := by
  subst hp; subst hx; intro H locs ls hW hS hl
  have hi : i < n := hW.lt hk (by simp)
  have hv : v < n := hW.lt hkv (by simp)
  have hat := hW.2.2 i _ (wl_get hi)
  rw [cel_r hk (by decide)] at hat
  have hc : H[gz Γ + i]? = some (arrV (gT Γ 104) m (fun j => va_rf (zo (gz Γ) (R i j)))) := hat
  have hatv := hW.2.2 v _ (wl_get hv)
  rw [cel_o hkv (by decide)] at hatv
  obtain ⟨r2, hr2, cellV, g1, g2, g3, -⟩ := hatv
  have hK := C.2.2.2.2.2.2.2.1.1
  have hcl : (nI j).toNatClampNeg = j := nI_clamp (by omega)
  have hcls := (hK.1 2 (RX2, TX2, 8) rfl).2
  obtain ⟨kA, comp, k1, k2, k3, -⟩ := (hK.2 4 (gT Γ 104, .object RX2) rfl).2
  have hcomp : comp = (gD Γ).1 2 := Option.some.inj (k3.symm.trans hcls.1)
  subst hcomp
  obtain ⟨kC, hkC, -⟩ := hcls.2
  refine W.aast C.1 C.2.1 hc (fun q h => by cases h) (fun h => by cases h) k1 k2 rfl hkC ⟨fun h => (vp_in_nI hj hm) (Or.inl h), by rw [arrV_size, hcl]; exact hj⟩ g1 (fun q h => by rw [g3] at h; cases h) (by rw [g2]; exact hkC) (by rw [g2]; exact va_assign hcls) rfl rfl hd fun H1 e z oq => ?_
  refine kk H1 _ ls (hW.put (i := i) z oq ?_ (fun a ha => ⟨rfl, rfl, ?_⟩)) (hS.put z oq (Nat.le_add_right _ _)) hl
  · rw [cel_r hk (by decide)]
    show H1[gz Γ + i]? = some (vp_cell _ _)
    rw [e, vp_cell_q, arrV_store, hcl]
    congr 2
    funext q
    by_cases hq : q = j
    · subst hq; simp [updV, up2, va_rf, zo]
    · simp [updV, up2, hq]
  · funext b; simp [up2, ha]
end HEAP
end
section
/-! ===== methods: their contracts, calls, ends ===== -/
abbrev Post : Type := Option Value → Nat → wKd → wIn → wLn → wRf → Prop
/-- the answer r, the world as told -/
def Det (r : Option Value) (n : Nat) (K : wKd) (I : wIn) (L : wLn) (R : wRf) : Post := fun r2 n2 K2 I2 L2 R2 => r2 = r ∧ n2 = n ∧ K2 = K ∧ I2 = I ∧ L2 = L ∧ R2 = R
def Qp (D : va_G) (cT : Nat → ClassId) (z : Nat) (post : Post) : Array Value → State → Outcome → State → Prop := fun _ st oc t => (∃ (r : Option Value) (n : Nat) (K : wKd) (I : wIn) (L : wLn) (R : wRf), oc = .returned (r.map (cv z)) ∧ post r n K I L R ∧ HW D cT z n K I L R t.heap) ∧ va_F (fun q => z ≤ q) st t
def Sp (y : MethodName) (cc : ByteArray) (nL : Nat) (ret : Option FieldType) (rm : Room) (av : List Value) (n : Nat) (K : wKd) (I : wIn) (L : wLn) (R : wRf) (post : Post) : Prop :=
  ∀ (l : Launch) (D : va_G) (cT : Nat → ClassId) (z : Nat), Met l y (Cond.code y cc nL ret :: tg) rm (va_Pc (av.map (cv z)) (fun U => HW D cT z n K I L R U.heap ∧ KX D cT U)) (Qp D cT z post) rm.cells rm.slots (fun q => z ≤ q)
def QQ (Γ : Gm) (post : Post) : State → Prop := MQ (gb Γ) (Qp (gD Γ) (gT Γ) (gz Γ) post) (ga Γ) (gs Γ) (gR Γ).cells (gR Γ).slots (fun q => gz Γ ≤ q)
theorem KX.same {D : va_G} {cT : Nat → ClassId} {u U : State} (h : u.vm = U.vm) (hK : KX D cT u) : KX D cT U := by
  have hal : u.vm.Alike U.vm := by rw [h]; exact Vm.Alike.refl U.vm
  exact ⟨va_K.moved hal hK.1, fun w hw hn => va_Nw.same (by cases w <;> first | rfl | (simp [isNest] at hn)) h (hK.2.1 w hw hn), hK.2.2.1.movedO hal, hK.2.2.2.movedA hal⟩
theorem lv_args_1 : ∀ (vs : List Value) (k j : Nat) (v : Value), (∀ w ∈ vs, w.category = 1) → vs[j]? = some v → (k + j, v) ∈ lv_args k vs
  | [], _, _, _, _, h => by simp at h
  | w :: l, k, 0, v, _, h => by
    simp at h
    subst h
    simp [lv_args]
  | w :: l, k, j + 1, v, hc, h => by
    have h1 := lv_args_1 l (k + 1) j v (fun u hu => hc u (List.mem_cons_of_mem _ hu)) (by simpa using h)
    have hw : w.category = 1 := hc w List.mem_cons_self
    simp only [lv_args, hw]
    refine List.mem_cons_of_mem _ ?_
    have e : k + (j + 1) = k + 1 + j := by omega
    rw [e]
    exact h1
theorem Sp_intro {y : MethodName} {cc : ByteArray} {nL : Nat} {ret : Option FieldType} {rm : Room} {av : List Value} {n : Nat} {K : wKd} {I : wIn} {L : wLn} {R : wRf} {post : Post} (lo : List (Option Value)) (hy : plainName y.cls = true) (hlo : av.map some ++ List.replicate (nL - av.length) none = lo) (hlen : av.length ≤ nL) (hcat : av.all (fun v => v.category == 1) = true)
    (h : ∀ Γ : Gm, Cx Γ y.cls cc nL ret rm y.name → wp Γ 0 0 (QQ Γ post) 0 lo [] n K I L R) : Sp y cc nL ret rm av n K I L R post := by
  intro l D cT z
  refine Met.ofW (cc := cc) (maxL := nL) (ret := ret) hy rfl ?_
  intro p e s m args below meth c s₁ B hml hv
  obtain ⟨rfl, hW, hK⟩ := hv
  have hts := atoms_spec (ws := Cond.code y cc nL ret :: tg) B.pre
  have hcat1 : ∀ v ∈ av, v.category = 1 := fun v hv => by simpa using List.all_eq_true.mp hcat v hv
  have hcl : ∀ w ∈ av.map (cv z), w.category = 1 := fun w hw => by
    obtain ⟨v, hv, rfl⟩ := List.mem_map.mp hw
    rw [cv_cat]; exact hcat1 v hv
  have hsl : ∀ vs : List Value, (∀ w ∈ vs, w.category = 1) → (lg_sl vs).length = vs.length := by
    intro vs
    induction vs with
    | nil => intro _; rfl
    | cons a t ih =>
      intro hc
      have h1 := ih (fun w hw => hc w (List.mem_cons_of_mem _ hw))
      have h2 := hc a List.mem_cons_self
      simp only [lg_sl, List.flatMap_cons, h2] at h1 ⊢
      simp at h1 ⊢
      omega
  have hle : (lg_sl (av.map (cv z))).length ≤ nL := by rw [hsl _ hcl]; simpa using hlen
  have hl := lv_entry (av.map (cv z)) (n := nL) hle
  rw [lg_entry_eq]
  have key := h (p, l, e, (headSpec (Cond.code y cc nL ret :: tg) rm).room, s, m, (av.map (cv z)).toArray, below, meth, c, D, cT, z) ⟨B.exec, B.bytes, B.returns, hml, findClass_of_methodNamed B.named, fun w hw => hts w (List.mem_cons_of_mem _ hw), B.notSynchronized, hK, rfl, (name_of_methodNamed B.named B.method).1, by show z ≤ s.heap.size; rw [hW.1]; exact Nat.le_add_right z n⟩
  refine key s.heap [] _ hW va_S.rf ?_
  refine ⟨by show _ = c.maxLocals; rw [hml]; exact hl.1, hl.2.1, fun q hq => ?_⟩
  obtain ⟨j, v, hj, rfl⟩ := (lps_mem z lo 0 q).mp hq
  apply hl.2.2
  rw [← hlo] at hj
  by_cases hlt : j < av.length
  · rw [List.getElem?_append_left (by simpa using hlt)] at hj
    have hj2 : av[j]? = some v := by simpa using hj
    exact lv_args_1 _ 0 j _ hcl (by rw [List.getElem?_map, hj2]; rfl)
  · rw [List.getElem?_append_right (by simpa using hlt)] at hj
    have := List.mem_of_getElem? hj
    simp at this
section CALLS
variable {Γ : Gm} {own : String} {cc : ByteArray} {nL : Nat} {ret : Option FieldType} {rm : Room} {nm : String} {cells slots pc pc2 : Nat} {Q : State → Prop} {lo : List (Option Value)} {st : List Value} {n : Nat} {K : wKd} {I : wIn} {L : wLn} {R : wRf}
/-- ends -/
theorem w_ret (C : Cx Γ own cc nL none rm nm) {post : Post} (hd : decode cc pc = .ok (.return_, 1)) (hc : cells ≤ rm.cells) (hs : slots ≤ rm.slots) (hpost : post none n K I L R) : wp Γ cells slots (QQ Γ post) pc lo [] n K I L R := by
  intro H locs ls hW hS hl
  refine W.widen (k := (gR Γ).cells) (n := (gR Γ).slots) (by rw [C.2.2.2.2.2.2.2.2.1]; exact hc) (by rw [C.2.2.2.2.2.2.2.2.1]; exact hs) ?_
  exact W.vret C.1 C.2.1 C.2.2.1 (fun t ht _ => ⟨⟨none, n, K, I, L, R, rfl, hpost, by rw [ht]; exact hW⟩, hS.F ht⟩) hS.2.2 hd C.2.2.2.2.2.2.1
theorem w_iret (C : Cx Γ own cc nL (some .int) rm nm) {post : Post} {x : Int32} (hd : decode cc pc = .ok (.ireturn, 1)) (hc : cells ≤ rm.cells) (hs : slots ≤ rm.slots) (hpost : post (some (.int x)) n K I L R) : wp Γ cells slots (QQ Γ post) pc lo [.int x] n K I L R := by
  intro H locs ls hW hS hl
  refine W.widen (k := (gR Γ).cells) (n := (gR Γ).slots) (by rw [C.2.2.2.2.2.2.2.2.1]; exact hc) (by rw [C.2.2.2.2.2.2.2.2.1]; exact hs) ?_
  exact W.iret C.1 C.2.1 C.2.2.1 (fun t ht _ => ⟨⟨some (.int x), n, K, I, L, R, rfl, hpost, by rw [ht]; exact hW⟩, hS.F ht⟩) hS.2.2 hd C.2.2.2.2.2.2.1
theorem w_zret (C : Cx Γ own cc nL (some .boolean) rm nm) {post : Post} {x : Int32} (hd : decode cc pc = .ok (.ireturn, 1)) (hx : x = 0 ∨ x = 1) (hc : cells ≤ rm.cells) (hs : slots ≤ rm.slots) (hpost : post (some (.int x)) n K I L R) : wp Γ cells slots (QQ Γ post) pc lo [.int x] n K I L R := by
  intro H locs ls hW hS hl
  refine W.widen (k := (gR Γ).cells) (n := (gR Γ).slots) (by rw [C.2.2.2.2.2.2.2.2.1]; exact hc) (by rw [C.2.2.2.2.2.2.2.2.1]; exact hs) ?_
  exact W.zret (ty := .boolean) C.1 C.2.1 C.2.2.1 (by rcases hx with e | e <;> subst e <;> decide) (fun t ht _ => ⟨⟨some (.int x), n, K, I, L, R, rfl, hpost, by rw [ht]; exact hW⟩, hS.F ht⟩) hS.2.2 hd C.2.2.2.2.2.2.1
theorem w_lret (C : Cx Γ own cc nL (some .long) rm nm) {post : Post} {x : Int64} (hd : decode cc pc = .ok (.lreturn, 1)) (hc : cells ≤ rm.cells) (hs : slots ≤ rm.slots) (hpost : post (some (.long x)) n K I L R) : wp Γ cells slots (QQ Γ post) pc lo [.long x] n K I L R := by
  intro H locs ls hW hS hl
  refine W.widen (k := (gR Γ).cells) (n := (gR Γ).slots) (by rw [C.2.2.2.2.2.2.2.2.1]; exact hc) (by rw [C.2.2.2.2.2.2.2.2.1]; exact hs) ?_
  exact W.lret C.1 C.2.1 C.2.2.1 (fun t ht _ => ⟨⟨some (.long x), n, K, I, L, R, rfl, hpost, by rw [ht]; exact hW⟩, hS.F ht⟩) hS.2.2 hd C.2.2.2.2.2.2.1
theorem w_aret {cn : String} (C : Cx Γ own cc nL (some (.object cn)) rm nm) {post : Post} {x : Nat} (hd : decode cc pc = .ok (.areturn, 1)) (hc : cells ≤ rm.cells) (hs : slots ≤ rm.slots) (hpost : post (some (.ref x)) n K I L R) : wp Γ cells slots (QQ Γ post) pc lo [.ref x] n K I L R := by
  intro H locs ls hW hS hl
  refine W.widen (k := (gR Γ).cells) (n := (gR Γ).slots) (by rw [C.2.2.2.2.2.2.2.2.1]; exact hc) (by rw [C.2.2.2.2.2.2.2.2.1]; exact hs) ?_
  exact W.aret C.1 C.2.1 C.2.2.1 (Or.inl ⟨cn, rfl⟩) (Or.inr ⟨gz Γ + x, rfl⟩) (fun t ht _ => ⟨⟨some (.ref x), n, K, I, L, R, rfl, hpost, by rw [ht]; exact hW⟩, hS.F ht⟩) hS.2.2 hd C.2.2.2.2.2.2.1
/-- behind a call -/
theorem run_go {H : Heap} {locs : List Loc} {ls : Array Slot} {mc ms : Nat} {st0 : List Value} {post : Post} {a : Array Value}
    (hrun : va_Run (gp Γ) (gl Γ) (ge Γ) (gR Γ) (gs Γ) (gm Γ) (ga Γ) (gb Γ) (gme Γ) (gc Γ) H locs cells slots mc ms (F0 (gm Γ) pc ls st0) (st.map (cv (gz Γ))) (Qp (gD Γ) (gT Γ) (gz Γ) post a) (fun q => gz Γ ≤ q)) (hS : va_S (fun q => gz Γ ≤ q) (gs Γ).heap H locs) (hl : lh (gz Γ) ls (gc Γ).maxLocals lo)
    (k : ∀ (r : Option Value) (n2 : Nat) (K2 : wKd) (I2 : wIn) (L2 : wLn) (R2 : wRf), post r n2 K2 I2 L2 R2 → wp Γ (cells + mc) (slots + ms) Q (pc + 3) lo (r.toList ++ st) n2 K2 I2 L2 R2) :
    W (gp Γ) (gl Γ) (ge Γ) (gR Γ) (gs Γ) (gm Γ) (ga Γ) (gb Γ) (gme Γ) (gc Γ) H locs cells slots Q (F0 (gm Γ) pc ls st0) := by
  intro T hT X
  obtain ⟨v, s0, t, T2, Lc, h0, X2, hL, e1, e2, ⟨⟨r, n2, K2, I2, L2, R2, hv, hp, hHW⟩, hz, hk⟩, go⟩ := hrun T hT X
  cases hv
  rw [h0] at hz hk
  obtain ⟨t2, a1, b1⟩ := k r n2 K2 I2 L2 R2 hp T2.heap (locs ++ Lc) ls (by rw [e1]; exact hHW)
    ⟨Nat.le_trans hS.1 (by rw [e1]; exact hz), fun q h1 h2 => by rw [e1, hk q (Nat.lt_of_lt_of_le h1 hS.1) h2]; exact hS.2.1 q h1 h2, fun q hq => by
      rcases List.mem_append.mp hq with h | h
      · exact hS.2.2 q h
      · exact hL q h⟩ hl T2 rfl X2
  refine ⟨t2, go t2 ?_, b1⟩
  cases r with
  | none => exact a1
  | some v => exact a1
/-- the words of a call of y by own's entry idx -/
def MB (own : String) (idx : Nat) (y : MethodName) (cc : ByteArray) (nL : Nat) (ret : Option FieldType) (np : Nat) : Prop := Cond.methodLink own idx y ∈ tg ∧ Cond.initialized y.cls ∈ tg ∧ Cond.code y cc nL ret ∈ tg ∧ (y.cls ≠ "java/lang/invoke/MethodHandle" ∧ y.cls ≠ "java/lang/invoke/VarHandle" ∧ (parseMethodDescriptor y.desc).map (fun d => d.parameters.length) = some np)
def MN (own : String) (idx : Nat) (y : MethodName) (host : String) (cc : ByteArray) (nL : Nat) (ret : Option FieldType) (np : Nat) : Prop := Cond.methodLinkNest own idx y host ∈ lw_tbl ∧ Cond.initialized y.cls ∈ tg ∧ Cond.code y cc nL ret ∈ tg ∧ (y.cls ≠ "java/lang/invoke/MethodHandle" ∧ y.cls ≠ "java/lang/invoke/VarHandle" ∧ (parseMethodDescriptor y.desc).map (fun d => d.parameters.length) = some np)
theorem pc_blind {D : va_G} {cT : Nat → ClassId} {z : Nat} {av : List Value} : FrameBlind (va_Pc av (fun U => HW D cT z n K I L R U.heap ∧ KX D cT U)) := fun a U g mk q => by
  obtain ⟨q0, q1, q2⟩ := q
  exact ⟨q0, q1, KX.same (u := U) (U := U.calling g mk a) rfl q2⟩
theorem w_callV (C : Cx Γ own cc nL ret rm nm) {idx b ci m np nL2 : Nat} {y : MethodName} {cc2 : ByteArray} {ret2 : Option FieldType} {rm2 : Room} {As st0 : List Value} {post : Post} (hd : decode cc pc = .ok (.invokevirtual idx, 3)) (hB : MB own idx y cc2 nL2 ret2 np) (hV : Cond.instanceMethod y ∈ tg ∧ Cond.selects y.cls y y ∈ tg) (hS2 : Sp y cc2 nL2 ret2 rm2 (.ref b :: As) n K I L R post)
    (hk : K b = (ci, m)) (hci : (vwCl[ci]?).map (fun q => q.1) = some y.cls) (hc1 : ci < 100) (hst : st0 = As.reverse ++ .ref b :: st) (hn : As.length = np) (hcat : (st.map fun v => v.category).sum ≤ 8) (hroom : rm2.frames + 1 ≤ rm.frames ∧ 8 + (nL2 + 11) + rm2.locals ≤ rm.locals) (hf : cells + rm2.cells ≤ rm.cells ∧ slots + rm2.slots ≤ rm.slots) (hp : pc + 3 = pc2)
    (k : ∀ (r : Option Value) (n2 : Nat) (K2 : wKd) (I2 : wIn) (L2 : wLn) (R2 : wRf), post r n2 K2 I2 L2 R2 → wp Γ (cells + rm2.cells) (slots + rm2.slots) Q pc2 lo (r.toList ++ st) n2 K2 I2 L2 R2) : wp Γ cells slots Q pc lo st0 n K I L R := by
  subst hp; subst hst; intro H locs ls hW hS hl
  have hi : b < n := hW.lt hk (by show ci ≠ 999; omega)
  have hts := C.2.2.2.2.2.1
  have hKK := C.2.2.2.2.2.2.2.1
  have hRr := C.2.2.2.2.2.2.2.2.1
  obtain ⟨q, hq, hqy⟩ : ∃ q : vw_C, vwCl[ci]? = some q ∧ q.1 = y.cls := by
    cases h : vwCl[ci]? with
    | none => rw [h] at hci; cases hci
    | some q => rw [h] at hci; exact ⟨q, rfl, by simpa using hci⟩
  have e : ((fun v : Value => v.category) ∘ cv (gz Γ)) = (fun v : Value => v.category) := funext (fun v => cv_cat (gz Γ) v)
  have he : (wl (gT Γ) (gz Γ) n K I L R)[b]? = some (gz Γ + b, .inr (ci, flds (gz Γ) (I b) (R b) (FK ci) 0)) := by rw [wl_get hi, cel_o hk hc1]
  have hrecv := va_recv hKK.1 hW.2.2 hq he
  rw [hqy] at hrecv
  have cw : CallW (gR Γ) (gs Γ) (ga Γ) own y.cls idx y cc2 nL2 ret2 (Cond.code y cc2 nL2 ret2 :: tg) rm2 rm2.cells rm2.slots np := ⟨callB_of np hts (tg_in hB.2.2.1) rfl rfl rfl (hts _ hB.2.1) (hts _ hB.1) hB.2.2.2 (by rw [hRr]; exact hroom), hts _ hV.1, hts _ hV.2⟩
  have hrun := va_runV (H := H) (locs := locs) (cells := cells) (slots := slots) (As := As.map (cv (gz Γ))) (rest := st.map (cv (gz Γ))) (b := gz Γ + b) (g := F0 (gm Γ) pc ls ((As.reverse ++ .ref b :: st).map (cv (gz Γ)))) (below := gb Γ) (e := ge Γ) (meth := gme Γ) (nL := (gc Γ).maxLocals) ⟨C.1, C.2.1, rfl, C.2.2.2.2.1, hts⟩ (hS2 (gl Γ) (gD Γ) (gT Γ) (gz Γ)) cw ⟨pc_blind, hrecv, fun U hU hWm => ⟨rfl, by rw [hU]; exact hW, hKK.warm hWm⟩⟩ rfl (by rw [List.length_map]; exact hn) hl.1 (by show List.map _ _ = _; rw [List.map_append, List.map_reverse]; rfl) (lv_room (by rw [List.map_map, e]; exact hcat)) hd (by rw [hRr]; exact hf)
  exact run_go hrun hS hl k
theorem w_callS (C : Cx Γ own cc nL ret rm nm) {idx np nL2 : Nat} {y : MethodName} {cc2 : ByteArray} {ret2 : Option FieldType} {rm2 : Room} {As st0 : List Value} {post : Post} (hd : decode cc pc = .ok (.invokestatic idx, 3)) (hB : MB own idx y cc2 nL2 ret2 np) (hV : Cond.static y ∈ tg) (hS2 : Sp y cc2 nL2 ret2 rm2 As n K I L R post)
    (hst : st0 = As.reverse ++ st) (hn : As.length = np) (hcat : (st.map fun v => v.category).sum ≤ 8) (hroom : rm2.frames + 1 ≤ rm.frames ∧ 8 + (nL2 + 11) + rm2.locals ≤ rm.locals) (hf : cells + rm2.cells ≤ rm.cells ∧ slots + rm2.slots ≤ rm.slots) (hp : pc + 3 = pc2)
    (k : ∀ (r : Option Value) (n2 : Nat) (K2 : wKd) (I2 : wIn) (L2 : wLn) (R2 : wRf), post r n2 K2 I2 L2 R2 → wp Γ (cells + rm2.cells) (slots + rm2.slots) Q pc2 lo (r.toList ++ st) n2 K2 I2 L2 R2) : wp Γ cells slots Q pc lo st0 n K I L R := by
  subst hp; subst hst; intro H locs ls hW hS hl
  have hts := C.2.2.2.2.2.1
  have hKK := C.2.2.2.2.2.2.2.1
  have hRr := C.2.2.2.2.2.2.2.2.1
  have e : ((fun v : Value => v.category) ∘ cv (gz Γ)) = (fun v : Value => v.category) := funext (fun v => cv_cat (gz Γ) v)
  have cw : CallB (gR Γ) (gs Γ) (ga Γ) own idx y cc2 nL2 ret2 (Cond.code y cc2 nL2 ret2 :: tg) rm2 rm2.cells rm2.slots np := callB_of np hts (tg_in hB.2.2.1) rfl rfl rfl (hts _ hB.2.1) (hts _ hB.1) hB.2.2.2 (by rw [hRr]; exact hroom)
  have hrun := va_runS (H := H) (locs := locs) (cells := cells) (slots := slots) (As := As.map (cv (gz Γ))) (rest := st.map (cv (gz Γ))) (g := F0 (gm Γ) pc ls ((As.reverse ++ st).map (cv (gz Γ)))) (below := gb Γ) (e := ge Γ) (meth := gme Γ) (nL := (gc Γ).maxLocals) ⟨C.1, C.2.1, rfl, C.2.2.2.2.1, hts⟩ (hS2 (gl Γ) (gD Γ) (gT Γ) (gz Γ)) ⟨cw, hts _ hV⟩ ⟨pc_blind, fun U hU hWm => ⟨rfl, by rw [hU]; exact hW, hKK.warm hWm⟩⟩ rfl (by rw [List.length_map]; exact hn) hl.1 (by show List.map _ _ = _; rw [List.map_append, List.map_reverse]) (lv_room (by rw [List.map_map, e]; exact hcat)) hd (by rw [hRr]; exact hf)
  exact run_go hrun hS hl k
theorem w_callI (C : Cx Γ own cc nL ret rm nm) {idx b np nL2 : Nat} {y : MethodName} {cc2 : ByteArray} {rm2 : Room} {As st0 : List Value} {post : Post} (hd : decode cc pc = .ok (.invokespecial idx, 3)) (hB : MB own idx y cc2 nL2 none np) (hV : Cond.instanceMethod y ∈ tg ∧ y.name = "<init>") (hS2 : Sp y cc2 nL2 none rm2 (.ref b :: As) n K I L R post)
    (hst : st0 = As.reverse ++ .ref b :: st) (hn : As.length = np) (hcat : (st.map fun v => v.category).sum ≤ 8) (hroom : rm2.frames + 1 ≤ rm.frames ∧ 8 + (nL2 + 11) + rm2.locals ≤ rm.locals) (hf : cells + rm2.cells ≤ rm.cells ∧ slots + rm2.slots ≤ rm.slots) (hp : pc + 3 = pc2)
    (k : ∀ (r : Option Value) (n2 : Nat) (K2 : wKd) (I2 : wIn) (L2 : wLn) (R2 : wRf), post r n2 K2 I2 L2 R2 → wp Γ (cells + rm2.cells) (slots + rm2.slots) Q pc2 lo (r.toList ++ st) n2 K2 I2 L2 R2) : wp Γ cells slots Q pc lo st0 n K I L R := by
  subst hp; subst hst; intro H locs ls hW hS hl
  have hts := C.2.2.2.2.2.1
  have hKK := C.2.2.2.2.2.2.2.1
  have hRr := C.2.2.2.2.2.2.2.2.1
  have e : ((fun v : Value => v.category) ∘ cv (gz Γ)) = (fun v : Value => v.category) := funext (fun v => cv_cat (gz Γ) v)
  have cw : CallB (gR Γ) (gs Γ) (ga Γ) own idx y cc2 nL2 none (Cond.code y cc2 nL2 none :: tg) rm2 rm2.cells rm2.slots np := callB_of np hts (tg_in hB.2.2.1) rfl rfl rfl (hts _ hB.2.1) (hts _ hB.1) hB.2.2.2 (by rw [hRr]; exact hroom)
  have hrun := va_runI (H := H) (locs := locs) (cells := cells) (slots := slots) (As := As.map (cv (gz Γ))) (rest := st.map (cv (gz Γ))) (b := gz Γ + b) (g := F0 (gm Γ) pc ls ((As.reverse ++ .ref b :: st).map (cv (gz Γ)))) (below := gb Γ) (e := ge Γ) (meth := gme Γ) (nL := (gc Γ).maxLocals) ⟨C.1, C.2.1, rfl, C.2.2.2.2.1, hts⟩ (hS2 (gl Γ) (gD Γ) (gT Γ) (gz Γ)) ⟨cw, hV.2, hts _ hV.1⟩ ⟨pc_blind, fun U hU hWm => ⟨rfl, by rw [hU]; exact hW, hKK.warm hWm⟩⟩ rfl (by rw [List.length_map]; exact hn) hl.1 (by show List.map _ _ = _; rw [List.map_append, List.map_reverse]; rfl) (lv_room (by rw [List.map_map, e]; exact hcat)) hd (by rw [hRr]; exact hf)
  exact run_go hrun hS hl k
theorem w_callIN (C : Cx Γ own cc nL ret rm nm) {idx b np nL2 : Nat} {y : MethodName} {host : String} {cc2 : ByteArray} {rm2 : Room} {As st0 : List Value} {post : Post} (hd : decode cc pc = .ok (.invokespecial idx, 3)) (hB : MN own idx y host cc2 nL2 none np) (hV : Cond.instanceMethod y ∈ tg ∧ y.name = "<init>") (hS2 : Sp y cc2 nL2 none rm2 (.ref b :: As) n K I L R post)
    (hst : st0 = As.reverse ++ .ref b :: st) (hn : As.length = np) (hcat : (st.map fun v => v.category).sum ≤ 8) (hroom : rm2.frames + 1 ≤ rm.frames ∧ 8 + (nL2 + 11) + rm2.locals ≤ rm.locals) (hf : cells + rm2.cells ≤ rm.cells ∧ slots + rm2.slots ≤ rm.slots) (hp : pc + 3 = pc2)
    (k : ∀ (r : Option Value) (n2 : Nat) (K2 : wKd) (I2 : wIn) (L2 : wLn) (R2 : wRf), post r n2 K2 I2 L2 R2 → wp Γ (cells + rm2.cells) (slots + rm2.slots) Q pc2 lo (r.toList ++ st) n2 K2 I2 L2 R2) : wp Γ cells slots Q pc lo st0 n K I L R := by
  subst hp; subst hst; intro H locs ls hW hS hl
  have hts := C.2.2.2.2.2.1
  have hKK := C.2.2.2.2.2.2.2.1
  have hRr := C.2.2.2.2.2.2.2.2.1
  have e : ((fun v : Value => v.category) ∘ cv (gz Γ)) = (fun v : Value => v.category) := funext (fun v => cv_cat (gz Γ) v)
  have cw : va_CN (gR Γ) (gs Γ) (ga Γ) own idx y host cc2 nL2 none (Cond.code y cc2 nL2 none :: tg) rm2 rm2.cells rm2.slots np := va_cnB np hts (tg_in hB.2.2.1) rfl rfl rfl (hKK.2.1 _ hB.1 rfl) (hts _ hB.2.1) hB.2.2.2 (by rw [hRr]; exact hroom)
  have hrun := va_runIN (H := H) (locs := locs) (cells := cells) (slots := slots) (As := As.map (cv (gz Γ))) (rest := st.map (cv (gz Γ))) (b := gz Γ + b) (g := F0 (gm Γ) pc ls ((As.reverse ++ .ref b :: st).map (cv (gz Γ)))) (below := gb Γ) (e := ge Γ) (meth := gme Γ) (nL := (gc Γ).maxLocals) ⟨C.1, C.2.1, rfl, C.2.2.2.2.1, hts⟩ (hS2 (gl Γ) (gD Γ) (gT Γ) (gz Γ)) ⟨cw, hV.2, hts _ hV.1⟩ ⟨pc_blind, fun U hU hWm => ⟨rfl, by rw [hU]; exact hW, hKK.warm hWm⟩⟩ rfl (by rw [List.length_map]; exact hn) hl.1 (by show List.map _ _ = _; rw [List.map_append, List.map_reverse]; rfl) (lv_room (by rw [List.map_map, e]; exact hcat)) hd (by rw [hRr]; exact hf)
  exact run_go hrun hS hl k
end CALLS
end
section
/-! ===== what is made; the JDK's own methods ===== -/
theorem HW.push {D : va_G} {cT : Nat → ClassId} {z n : Nat} {K : wKd} {I : wIn} {L : wLn} {R : wRf} {H H1 : Heap} {κ : Nat × Nat} {I1 : Nat → Int32} {L1 : Nat → Int64} {R1 : Nat → Option Nat} (h : HW D cT z n K I L R H) (hz : H1.size = H.size + 1) (ho : ∀ q, q < H.size → H1[q]? = H[q]?) (hat : va_at D vwCl (z + n, cel cT z κ I1 L1 R1) H1) : HW D cT z (n + 1) (up1 K n κ) (up1 I n I1) (up1 L n L1) (up1 R n R1) H1 := by
  refine ⟨by rw [hz, h.1]; omega, fun i hi => by rw [up1_n _ _ _ (by omega)]; exact h.2.1 i (by omega), fun k q hk => ?_⟩
  obtain ⟨hkn, rfl⟩ := wl_at hk
  by_cases e : k = n
  · subst e
    rw [up1_s, up1_s, up1_s, up1_s]
    exact hat
  · rw [up1_n _ _ _ e, up1_n _ _ _ e, up1_n _ _ _ e, up1_n _ _ _ e]
    have hk2 : k < n := by omega
    exact (h.2.2 k _ (wl_get hk2)).kept (ho _ (by show z + k < H.size; rw [h.1]; omega))
theorem va_S.grow {A : Nat → Prop} {H0 H H1 : Heap} {locs : List Loc} (hS : va_S A H0 H locs) (hz : H.size ≤ H1.size) (ho : ∀ q, q < H.size → H1[q]? = H[q]?) : va_S A H0 H1 locs := ⟨Nat.le_trans hS.1 hz, fun x h1 h2 => (ho x (Nat.lt_of_lt_of_le h1 hS.1)).trans (hS.2.1 x h1 h2), hS.2.2⟩
def NWk (own : String) (idx ci N : Nat) : Prop := ∃ (C : String) (T : u_T) (tyf : Nat → FieldType), ClOK ci C T N tyf ∧ Cond.classLink own idx C ∈ tg ∧ Cond.instantiable C N ∈ tg ∧ Cond.initialized C ∈ tg ∧ ∀ j, j < N → defaultValue (tyf j) = vp_V (flds 0 (fun _ => 0) (fun _ => none) (FK ci) 0) j
theorem flds_0 (z : Nat) : ∀ (l : List Nat) (k : Nat), flds z (fun _ => 0) (fun _ => none) l k = flds 0 (fun _ => 0) (fun _ => none) l k
  | [], _ => rfl
  | f :: l, k => by simp only [flds, flds_0 z l (k + 1)]; rfl
section ALLOC
variable {Γ : Gm} {own : String} {cc : ByteArray} {nL : Nat} {ret : Option FieldType} {rm : Room} {nm : String} {cells slots pc pc2 : Nat} {Q : State → Prop} {lo : List (Option Value)} {st : List Value} {n : Nat} {K : wKd} {I : wIn} {L : wLn} {R : wRf}
theorem w_new (C : Cx Γ own cc nL ret rm nm) {idx ci N : Nat} (hd : decode cc pc = .ok (.new idx, 3)) (hN : NWk own idx ci N) (hc : cells + 1 ≤ rm.cells) (hs : slots + N ≤ rm.slots) (hp : pc + 3 = pc2) (kk : wp Γ (cells + 1) (slots + N) Q pc2 lo (.ref n :: st) (n + 1) (up1 K n (ci, 0)) (up1 I n (fun _ => 0)) (up1 L n (fun _ => 0)) (up1 R n (fun _ => none))) : wp Γ cells slots Q pc lo st n K I L R := by
  subst hp; intro H locs ls hW hS hl
  obtain ⟨Cn, T, tyf, ⟨h1, h2, h3, h4, h5, h6⟩, h7, h8, h9, h10⟩ := hN
  have hts := C.2.2.2.2.2.1
  have hKK := C.2.2.2.2.2.2.2.1.1
  have hRr := C.2.2.2.2.2.2.2.2.1
  have hKn := hKK.1 ci _ h1
  refine W.newcK C.1 C.2.1 C.2.2.2.2.1 (hts _ h7) (hts _ h8) (hts _ h9) rfl hd (by rw [hRr]; exact hc) (by rw [hRr]; exact hs) hKn.2.1 hW.1 fun H1 kC hkC e1 z1 o1 => ?_
  have o2 : ∀ q, q < H.size → H1[q]? = H[q]? := fun q hq => o1 q (by rw [← hW.1]; exact hq)
  refine kk H1 locs ls (hW.push (by rw [z1, hW.1]) o2 ?_) (hS.grow (by rw [z1, hW.1]; omega) o2) hl
  rw [cel_o rfl h5, flds_0]
  exact ⟨_, h1, (u_born tyf hts h2 hKn hkC e1 h3).to h10⟩
/-- arrays of numbers: 100 int, 101 byte, 102 boolean, 103 long -/
theorem w_newarr (C : Cx Γ own cc nL ret rm nm) {aty : ArrayType} {t m : Nat} {x : Int32} (hd : decode cc pc = .ok (.newarray aty, 2)) (ht : (t = 100 ∧ aty = .int) ∨ (t = 101 ∧ aty = .byte) ∨ (t = 102 ∧ aty = .boolean) ∨ (t = 103 ∧ aty = .long)) (hac : Cond.arrayClass (newarray.typeOf aty) ∈ tg) (hx : x = nI m) (hm : m ≤ 2000000) (hc : cells + 1 ≤ rm.cells) (hs : slots + m ≤ rm.slots) (hp : pc + 2 = pc2) (kk : wp Γ (cells + 1) (slots + m) Q pc2 lo (.ref n :: st) (n + 1) (up1 K n (t, m)) (up1 I n (fun _ => 0)) (up1 L n (fun _ => 0)) (up1 R n (fun _ => none))) : wp Γ cells slots Q pc lo (.int x :: st) n K I L R := by
  subst hp; subst hx; intro H locs ls hW hS hl
  have hts := C.2.2.2.2.2.1
  have hKK := C.2.2.2.2.2.2.2.1.1
  have hRr := C.2.2.2.2.2.2.2.2.1
  have hcl : (nI m).toNatClampNeg = m := nI_clamp (by omega)
  have hb : m * componentBytes (newarray.typeOf aty) ≤ 536870912 := by
    rcases ht with ⟨-, e⟩ | ⟨-, e⟩ | ⟨-, e⟩ | ⟨-, e⟩ <;> subst e
    · show m * 4 ≤ _; omega
    · show m * 1 ≤ _; omega
    · show m * 1 ≤ _; omega
    · show m * 8 ≤ _; omega
  refine va_newaK C.1 C.2.1 (hts _ hac) rfl hd rfl (nI_pos (by omega)) hcl hb (by rw [hRr]; exact hc) (by rw [hRr]; exact hs) hW.1 fun H1 cA e1 z1 o1 hAr hNm => ?_
  have o2 : ∀ q, q < H.size → H1[q]? = H[q]? := fun q hq => o1 q (by rw [← hW.1]; exact hq)
  refine kk H1 locs ls (hW.push (by rw [z1, hW.1]) o2 ?_) (hS.grow (by rw [z1, hW.1]; omega) o2) hl
  rcases ht with ⟨e, e2⟩ | ⟨e, e2⟩ | ⟨e, e2⟩ | ⟨e, e2⟩ <;> subst e <;> subst e2
  · rw [cel_i rfl (by decide) (by decide)]
    have hA : cA = gT Γ 100 := Option.some.inj (hNm.symm.trans (hKK.2 0 (gT Γ 100, .int) rfl).2)
    rw [← hA]; exact e1
  · rw [cel_i rfl (by decide) (by decide)]
    have hA : cA = gT Γ 101 := Option.some.inj (hNm.symm.trans (hKK.2 1 (gT Γ 101, .byte) rfl).2)
    rw [← hA]; exact e1
  · rw [cel_i rfl (by decide) (by decide)]
    have hA : cA = gT Γ 102 := Option.some.inj (hNm.symm.trans (hKK.2 2 (gT Γ 102, .boolean) rfl).2)
    rw [← hA]; exact e1
  · rw [cel_l rfl]
    have hA : cA = gT Γ 103 := Option.some.inj (hNm.symm.trans (hKK.2 3 (gT Γ 103, .long) rfl).2)
    rw [← hA]; exact e1
/-- the array of Matters -/
theorem w_anew (C : Cx Γ own cc nL ret rm nm) {idx m : Nat} {x : Int32} (hd : decode cc pc = .ok (.anewarray idx, 3)) (hcl : Cond.classLink own idx RX2 ∈ tg) (hx : x = nI m) (hm : m ≤ 2000000) (hc : cells + 1 ≤ rm.cells) (hs : slots + m ≤ rm.slots) (hp : pc + 3 = pc2) (kk : wp Γ (cells + 1) (slots + m) Q pc2 lo (.ref n :: st) (n + 1) (up1 K n (104, m)) (up1 I n (fun _ => 0)) (up1 L n (fun _ => 0)) (up1 R n (fun _ => none))) : wp Γ cells slots Q pc lo (.int x :: st) n K I L R := by
  subst hp; subst hx; intro H locs ls hW hS hl
  have hts := C.2.2.2.2.2.1
  have hKK := C.2.2.2.2.2.2.2.1
  have hRr := C.2.2.2.2.2.2.2.2.1
  have hcm : (nI m).toNatClampNeg = m := nI_clamp (by omega)
  refine W.anew C.1 C.2.1 C.2.2.2.2.1 (hts _ hcl) (va_AO.use hKK.2.2.1) rfl hd rfl (nI_pos (by omega)) (by rw [hcm]; omega) (by rw [hRr]; exact hc) (by rw [hRr, hcm]; exact hs) fun cA kA comp f1 f2 f3 f4 => ?_
  rw [hcm]
  generalize hH1 : H.push ({ cls := cA, slots := Array.replicate m .null, vm := .none } : Cell) = H1
  have z1 : H1.size = H.size + 1 := by rw [← hH1, Array.size_push]
  have e1 : H1[H.size]? = some (arrV cA m (fun _ => .null)) := by rw [← hH1, Array.getElem?_push_size, ← arrV_new]
  have o1 : ∀ q : Nat, q < H.size → H1[q]? = H[q]? := fun q hq => by rw [← hH1, Array.getElem?_push, if_neg (Nat.ne_of_lt hq)]
  have key := kk H1 locs ls (hW.push z1 o1 (by
    rw [cel_r rfl (by decide)]
    obtain ⟨_, _, _, _, _, hn2⟩ := (hKK.1.2 4 (gT Γ 104, .object RX2) rfl).2
    have hA : cA = gT Γ 104 := Option.some.inj (f1.symm.trans hn2)
    rw [← hA, ← hW.1]; exact e1)) (hS.grow (by omega) o1) hl
  rw [hW.1]
  exact key
/-- new int[2][m] -/
theorem w_mnew (C : Cx Γ own cc nL ret rm nm) {idx m : Nat} (hd : decode cc pc = .ok (.multianewarray idx 2, 4)) (hcl : Cond.classLink own idx "[[I" ∈ tg) (hac : Cond.arrayClass .int ∈ tg) (hm : m ≤ 2000000) (hc : cells + 3 ≤ rm.cells) (hs : slots + (2 + 2 * m) ≤ rm.slots) (hp : pc + 4 = pc2)
    (kk : wp Γ (cells + 3) (slots + (2 + 2 * m)) Q pc2 lo (.ref n :: st) (n + 3) (up1 (up1 (up1 K n (105, 2)) (n + 1) (100, m)) (n + 2) (100, m)) (up1 (up1 (up1 I n (fun _ => 0)) (n + 1) (fun _ => 0)) (n + 2) (fun _ => 0)) (up1 (up1 (up1 L n (fun _ => 0)) (n + 1) (fun _ => 0)) (n + 2) (fun _ => 0)) (up1 (up1 (up1 R n (fun j => if j < 2 then some (n + 1 + j) else none)) (n + 1) (fun _ => none)) (n + 2) (fun _ => none))) : wp Γ cells slots Q pc lo (.int (nI m) :: .int 2 :: st) n K I L R := by
  subst hp; intro H locs ls hW hS hl
  have hts := C.2.2.2.2.2.1
  have hKK := C.2.2.2.2.2.2.2.1
  have hRr := C.2.2.2.2.2.2.2.2.1
  have hcm : (nI m).toNatClampNeg = m := nI_clamp (by omega)
  have hc2 : (2 : Int32).toNatClampNeg = 2 := rfl
  intro T hT X
  obtain ⟨vm1, cA, comp, hwm, fA, fC, hO, hI, X2, step⟩ := X.multianewarray2F C.1 C.2.2.2.2.1 (own := own) (index := idx) (ty := .int) (hts _ hcl) (va_AOA.use hKK.2.2.2) (hts _ hac) (g := F0 (gm Γ) pc ls (.int (nI m) :: .int 2 :: st.map (cv (gz Γ)))) rfl (by rw [C.2.1]; exact hd) rfl (by decide) (nI_pos (by omega)) (by decide) (by rw [hcm]; show m * 4 ≤ _; omega) (by rw [hcm]; omega) rfl rfl (by rw [hRr, hc2]; exact hc) (by rw [hRr, hc2, hcm]; exact hs)
  rw [hcm, hc2] at X2 step
  obtain ⟨f1, f2, -, -⟩ := Jvm.Free.Multi.fill_facts (T.setVm vm1) cA comp 2 m (defaultValue .int) 2
  have hTh : (T.setVm vm1).heap = H := hT
  rw [hTh] at f1 f2
  have hin : ∀ j, j < 2 → (Jvm.Free.Multi.fill (T.setVm vm1) cA comp 2 m (defaultValue .int) 2).heap[H.size + 1 + j]? = some (Jvm.Free.Multi.innerC comp m (defaultValue .int)) := fun j hj => by
    have := Jvm.Free.Multi.fill_inner (T.setVm vm1) cA comp 2 m (defaultValue .int) 2 j hj
    rw [hTh] at this
    exact this
  have hold : ∀ q, q < H.size → (Jvm.Free.Multi.fill (T.setVm vm1) cA comp 2 m (defaultValue .int) 2).heap[q]? = H[q]? := fun q hq => by
    have := Jvm.Free.Multi.fill_old (T.setVm vm1) cA comp 2 m (defaultValue .int) (a := q) (by rw [hTh]; exact hq) 2
    rw [hTh] at this
    exact this
  generalize hF : (Jvm.Free.Multi.fill (T.setVm vm1) cA comp 2 m (defaultValue .int) 2) = F at *
  have hA : cA = gT Γ 105 := Option.some.inj (fA.symm.trans (hKK.1.2 5 (gT Γ 105, .array .int) rfl).2)
  have hB : comp = gT Γ 100 := Option.some.inj (fC.symm.trans (hKK.1.2 0 (gT Γ 100, .int) rfl).2)
  have hinner : Jvm.Free.Multi.innerC comp m (defaultValue .int) = vp_cell (gT Γ 100) (m, .inl (fun _ => 0)) := by
    rw [vp_cell_i, ← hB, ← arrV_new]; rfl
  rw [vr_outer] at f2
  have hHW : HW (gD Γ) (gT Γ) (gz Γ) (n + 3) (up1 (up1 (up1 K n (105, 2)) (n + 1) (100, m)) (n + 2) (100, m)) (up1 (up1 (up1 I n (fun _ => 0)) (n + 1) (fun _ => 0)) (n + 2) (fun _ => 0)) (up1 (up1 (up1 L n (fun _ => 0)) (n + 1) (fun _ => 0)) (n + 2) (fun _ => 0)) (up1 (up1 (up1 R n (fun j => if j < 2 then some (n + 1 + j) else none)) (n + 1) (fun _ => none)) (n + 2) (fun _ => none)) F.heap := by
    refine ⟨by rw [f1, hW.1]; omega, fun i hi => by rw [up1_n _ _ _ (by omega), up1_n _ _ _ (by omega), up1_n _ _ _ (by omega)]; exact hW.2.1 i (by omega), fun k q hk => ?_⟩
    obtain ⟨hkn, rfl⟩ := wl_at hk
    by_cases e2 : k = n + 2
    · subst e2
      simp only [up1_s]
      rw [cel_i rfl (by decide) (by decide)]
      have := hin 1 (by decide)
      rw [hinner, hW.1] at this
      exact this
    · by_cases e1 : k = n + 1
      · subst e1
        simp only [up1_n _ (n + 2) _ e2, up1_s]
        rw [cel_i rfl (by decide) (by decide)]
        have := hin 0 (by decide)
        rw [hinner, hW.1] at this
        exact this
      · by_cases e0 : k = n
        · subst e0
          simp only [up1_n _ (k + 2) _ e2, up1_n _ (k + 1) _ e1, up1_s]
          rw [cel_r rfl (by decide)]
          show F.heap[gz Γ + k]? = some (vp_cell (gT Γ 105) _)
          rw [vp_cell_q, ← hA, ← hW.1, f2]
          congr 2
          funext j
          by_cases hj : j < 2
          · rw [if_pos hj, if_pos hj]
            show Value.ref (H.size + 1 + j) = Value.ref (gz Γ + (k + 1 + j))
            have e5 : H.size + 1 + j = gz Γ + (k + 1 + j) := by rw [hW.1]; omega
            rw [e5]
          · simp [hj, zo, va_rf]
        · simp only [up1_n _ (n + 2) _ e2, up1_n _ (n + 1) _ e1, up1_n _ n _ e0]
          have hk2 : k < n := by omega
          exact (hW.2.2 k _ (wl_get hk2)).kept (hold _ (by show gz Γ + k < H.size; rw [hW.1]; omega))
  obtain ⟨t, a1, b1⟩ := kk F.heap locs ls hHW (hS.grow (by rw [f1]; omega) hold) hl F rfl (by
    have e : slots + (2 + 2 * m) = slots + 2 + 2 * m := by omega
    rw [e]; exact X2)
  refine ⟨t, step t ?_, b1⟩
  have e : T.heap.size = gz Γ + n := by rw [hT]; exact hW.1
  rw [e]
  exact a1
theorem w_objInit (C : Cx Γ own cc nL ret rm nm) {idx i : Nat} (hd : decode cc pc = .ok (.invokespecial idx, 3)) (hl1 : Cond.methodLink own idx objectInit ∈ tg) (hl2 : Cond.instanceMethod objectInit ∈ tg) (hl3 : Cond.code objectInit ⟨#[0xb1]⟩ 1 none ∈ tg) (hfr : 1 ≤ rm.frames) (hlo : (st.map fun v => v.category).sum + 12 ≤ rm.locals) (hp : pc + 3 = pc2) (kk : wp Γ cells slots Q pc2 lo st n K I L R) : wp Γ cells slots Q pc lo (.ref i :: st) n K I L R := by
  subst hp; intro H locs ls hW hS hl
  have hts := C.2.2.2.2.2.1
  have hRr := C.2.2.2.2.2.2.2.2.1
  have e : ((fun v : Value => v.category) ∘ cv (gz Γ)) = (fun v : Value => v.category) := funext (fun v => cv_cat (gz Γ) v)
  exact W.objInit C.1 C.2.1 C.2.2.2.2.1 (hts _ hl1) (hts _ hl2) (hts _ hl3) rfl hl.1 rfl hd (by rw [hRr]; exact hfr) (by rw [hRr, List.map_map, e]; show 2 * 0 + _ + 12 ≤ _; omega) (kk H locs ls hW hS hl)
theorem w_mmax (C : Cx Γ own cc nL ret rm nm) {idx : Nat} {x y : Int32} (hd : decode cc pc = .ok (.invokestatic idx, 3)) (hl1 : Cond.methodLink own idx Lib.Math.max.name ∈ tg) (hl2 : Cond.static Lib.Math.max.name ∈ tg) (hl3 : Cond.initialized "java/lang/Math" ∈ tg) (hl4 : Cond.code Lib.Math.max.name Lib.Math.max.code 2 (some .int) ∈ tg) (hfr : 1 ≤ rm.frames) (hlo : (st.map fun v => v.category).sum + 13 ≤ rm.locals) (hc : cells ≤ rm.cells) (hs : slots ≤ rm.slots) (hp : pc + 3 = pc2) (kk : wp Γ cells slots Q pc2 lo (.int (if x < y then y else x) :: st) n K I L R) : wp Γ cells slots Q pc lo (.int y :: .int x :: st) n K I L R := by
  subst hp; intro H locs ls hW hS hl
  have hts := C.2.2.2.2.2.1
  have hRr := C.2.2.2.2.2.2.2.2.1
  have e : ((fun v : Value => v.category) ∘ cv (gz Γ)) = (fun v : Value => v.category) := funext (fun v => cv_cat (gz Γ) v)
  exact va_mmax C.1 C.2.1 hl.1.symm C.2.2.2.2.1 (hts _ hl1) (hts _ hl2) (hts _ hl3) (hts _ hl4) (by rw [hRr]; exact hfr) (by rw [hRr, List.map_map, e]; exact hlo) (by rw [hRr]; exact hc) (by rw [hRr]; exact hs) hd (kk H locs ls hW hS hl)
theorem w_mmin (C : Cx Γ own cc nL ret rm nm) {idx : Nat} {x y : Int32} (hd : decode cc pc = .ok (.invokestatic idx, 3)) (hl1 : Cond.methodLink own idx Lib.Math.min.name ∈ tg) (hl2 : Cond.static Lib.Math.min.name ∈ tg) (hl3 : Cond.initialized "java/lang/Math" ∈ tg) (hl4 : Cond.code Lib.Math.min.name Lib.Math.min.code 2 (some .int) ∈ tg) (hfr : 1 ≤ rm.frames) (hlo : (st.map fun v => v.category).sum + 13 ≤ rm.locals) (hc : cells ≤ rm.cells) (hs : slots ≤ rm.slots) (hp : pc + 3 = pc2) (kk : wp Γ cells slots Q pc2 lo (.int (if y < x then y else x) :: st) n K I L R) : wp Γ cells slots Q pc lo (.int y :: .int x :: st) n K I L R := by
  subst hp; intro H locs ls hW hS hl
  have hts := C.2.2.2.2.2.1
  have hRr := C.2.2.2.2.2.2.2.2.1
  have e : ((fun v : Value => v.category) ∘ cv (gz Γ)) = (fun v : Value => v.category) := funext (fun v => cv_cat (gz Γ) v)
  exact va_mmin C.1 C.2.1 hl.1.symm C.2.2.2.2.1 (hts _ hl1) (hts _ hl2) (hts _ hl3) (hts _ hl4) (by rw [hRr]; exact hfr) (by rw [hRr, List.map_map, e]; exact hlo) (by rw [hRr]; exact hc) (by rw [hRr]; exact hs) hd (kk H locs ls hW hS hl)
theorem w_mabs (C : Cx Γ own cc nL ret rm nm) {idx : Nat} {x : Int32} (hd : decode cc pc = .ok (.invokestatic idx, 3)) (hl1 : Cond.methodLink own idx Lib.Math.abs.name ∈ tg) (hl2 : Cond.static Lib.Math.abs.name ∈ tg) (hl3 : Cond.initialized "java/lang/Math" ∈ tg) (hl4 : Cond.code Lib.Math.abs.name Lib.Math.abs.code 1 (some .int) ∈ tg) (hfr : 1 ≤ rm.frames) (hlo : (st.map fun v => v.category).sum + 13 ≤ rm.locals) (hc : cells ≤ rm.cells) (hs : slots ≤ rm.slots) (hp : pc + 3 = pc2) (kk : wp Γ cells slots Q pc2 lo (.int (if 0 ≤ x then x else 0 - x) :: st) n K I L R) : wp Γ cells slots Q pc lo (.int x :: st) n K I L R := by
  subst hp; intro H locs ls hW hS hl
  have hts := C.2.2.2.2.2.1
  have hRr := C.2.2.2.2.2.2.2.2.1
  have e : ((fun v : Value => v.category) ∘ cv (gz Γ)) = (fun v : Value => v.category) := funext (fun v => cv_cat (gz Γ) v)
  exact va_mabs C.1 C.2.1 hl.1.symm C.2.2.2.2.1 (hts _ hl1) (hts _ hl2) (hts _ hl3) (hts _ hl4) (by rw [hRr]; exact hfr) (by rw [hRr, List.map_map, e]; exact hlo) (by rw [hRr]; exact hc) (by rw [hRr]; exact hs) hd (kk H locs ls hW hS hl)
end ALLOC
end
section
section MORE
variable {Γ : Gm} {own : String} {cc : ByteArray} {nL : Nat} {ret : Option FieldType} {rm : Room} {nm : String} {cells slots pc pc2 : Nat} {Q : State → Prop} {lo : List (Option Value)} {st : List Value} {n : Nat} {K : wKd} {I : wIn} {L : wLn} {R : wRf}
/-- System.arraycopy(a, 0, b, 0, c) -/
theorem w_copyI (C : Cx Γ own cc nL ret rm nm) {idx i j m1 m2 c : Nat} {x : Int32} (hd : decode cc pc = .ok (.invokestatic idx, 3)) (hl1 : Cond.methodLink own idx arraycopyName ∈ tg) (hl2 : Cond.native arraycopyName ∈ tg) (hl3 : Cond.static arraycopyName ∈ tg) (hl4 : Cond.initialized "java/lang/System" ∈ tg) (hk1 : K i = (100, m1)) (hk2 : K j = (100, m2)) (hx : x = nI c) (hc1 : c ≤ m1) (hc2 : c ≤ m2) (hm : c < 2 ^ 31) (hfr : 1 ≤ rm.frames) (hlo : (st.map fun v => v.category).sum + 18 ≤ rm.locals) (hp : pc + 3 = pc2)
    (kk : wp Γ cells slots Q pc2 lo st n K (up1 I j (fun q => if q < c then I i q else I j q)) L R) : wp Γ cells slots Q pc lo (.int x :: .int 0 :: .ref j :: .int 0 :: .ref i :: st) n K I L R := by
  subst hp; subst hx; intro H locs ls hW hS hl
  have hts := C.2.2.2.2.2.1
  have hKK := C.2.2.2.2.2.2.2.1.1
  have hRr := C.2.2.2.2.2.2.2.2.1
  have hi : i < n := hW.lt hk1 (by simp)
  have hj : j < n := hW.lt hk2 (by simp)
  have e : ((fun v : Value => v.category) ∘ cv (gz Γ)) = (fun v : Value => v.category) := funext (fun v => cv_cat (gz Γ) v)
  have hcl : (nI c).toNatClampNeg = c := nI_clamp (by omega)
  have hcI : (nI c).toInt = (c : Int) := nI_toInt hm
  have hati := hW.2.2 i _ (wl_get hi)
  rw [cel_i hk1 (by decide) (by decide)] at hati
  have hatj := hW.2.2 j _ (wl_get hj)
  rw [cel_i hk2 (by decide) (by decide)] at hatj
  have h0 : H[gz Γ + i]? = some (vp_cell (gT Γ 100) (m1, .inl (I i))) := hati
  have h1 : H[gz Γ + j]? = some (vp_cell (gT Γ 100) (m2, .inl (I j))) := hatj
  obtain ⟨-, k0, hk0, cm0, hkk0⟩ := (hKK.2 0 (gT Γ 100, .int) rfl).1 m1 (fun q => .int (I i q))
  intro T hT X
  obtain ⟨vm2, X2, step⟩ := X.arraycopy C.1 C.2.2.2.2.1 (hts _ hl1) (hts _ hl2) (hts _ hl3) (hts _ hl4) (src := gz Γ + i) (dst := gz Γ + j) (cs := vp_cell (gT Γ 100) (m1, .inl (I i))) (cd := vp_cell (gT Γ 100) (m2, .inl (I j))) (srcPos := 0) (destPos := 0) (n := nI c) (by rw [hT]; exact h0) (by rw [hT]; exact h1)
    (fun _ h => by cases h) (fun _ h => by cases h) (fun h => by cases h) (fun h => by cases h) hk0 hk0 hkk0 hkk0 (by rfl) (by decide) (by decide) (nI_pos hm)
    (by rw [hcI]; show ¬ (0 : Int) + _ > ((arrV (gT Γ 100) m1 (fun q => .int (I i q))).slots.size : Int); rw [arrV_size]; omega)
    (by rw [hcI]; show ¬ (0 : Int) + _ > ((arrV (gT Γ 100) m2 (fun q => .int (I j q))).slots.size : Int); rw [arrV_size]; omega)
    (fun vm3 _ q hq => by
      rw [hcl] at hq
      have e2 : (vp_cell (gT Γ 100) (m1, .inl (I i))).slots.getD ((0 : Int32).toNatClampNeg + q) .null = .int (I i (0 + q)) := by
        show (arrV (gT Γ 100) m1 (fun q => .int (I i q))).slots.getD (0 + q) _ = _
        rw [Array.getD_eq_getD_getElem?, arrV_read _ _ (by omega)]
        rfl
      rw [e2]
      exact ⟨rfl, trivial⟩)
    (g := F0 (gm Γ) pc ls (.int (nI c) :: .int 0 :: .ref (gz Γ + j) :: .int 0 :: .ref (gz Γ + i) :: st.map (cv (gz Γ)))) rfl hl.1 (rest := st.map (cv (gz Γ))) rfl (by rw [C.2.1]; exact hd) (by rw [hRr]; exact hfr) (by rw [hRr, List.map_map, e]; show 2 * 0 + _ + 18 ≤ _; rw [Nat.mul_zero, Nat.zero_add]; exact hlo)
  have e1 : copied (vp_cell (gT Γ 100) (m1, .inl (I i))) (vp_cell (gT Γ 100) (m2, .inl (I j))) 0 0 (nI c) = vp_cell (gT Γ 100) (m2, .inl (va_cpy (I i) (I j) 0 0 c)) := by
    have := va_copied (fun z => .int z) (gT Γ 100) (gT Γ 100) (n0 := m1) (n1 := m2) (sp := 0) (dp := 0) (n := c) (I i) (I j) (by omega)
    unfold copied
    rw [hcl]
    exact this
  rw [e1] at X2 step
  have hlt : gz Γ + j < H.size := (Array.getElem?_eq_some_iff.mp h1).1
  have hheap : ((T.setVm vm2).setCell (gz Γ + j) (vp_cell (gT Γ 100) (m2, .inl (va_cpy (I i) (I j) 0 0 c)))).heap = H.setIfInBounds (gz Γ + j) (vp_cell (gT Γ 100) (m2, .inl (va_cpy (I i) (I j) 0 0 c))) := by rw [← hT]; rfl
  have oq : ∀ q : Nat, q ≠ gz Γ + j → (H.setIfInBounds (gz Γ + j) (vp_cell (gT Γ 100) (m2, .inl (va_cpy (I i) (I j) 0 0 c))))[q]? = H[q]? := fun q hq => by simp [Array.getElem?_setIfInBounds, Ne.symm hq]
  obtain ⟨t, a1, b1⟩ := kk _ _ ls (hW.put (i := j) (H1 := H.setIfInBounds (gz Γ + j) (vp_cell (gT Γ 100) (m2, .inl (va_cpy (I i) (I j) 0 0 c)))) (by simp) oq (by
      rw [cel_i hk2 (by decide) (by decide), up1_s]
      show (H.setIfInBounds (gz Γ + j) _)[gz Γ + j]? = some (vp_cell _ _)
      rw [Array.getElem?_setIfInBounds, if_pos rfl, if_pos hlt]
      congr 4
      funext q
      simp [va_cpy]) (fun a ha => ⟨up1_n _ _ _ ha, rfl, rfl⟩)) ⟨by simp; exact hS.1, fun q g1 g2 => by
      rw [oq q (fun e => g2 (by rw [e]; exact Nat.le_add_right _ _))]
      exact hS.2.1 q g1 g2, fun q hq => by
      rcases List.mem_append.mp hq with h | h
      · exact hS.2.2 q h
      · obtain ⟨z, -, hz⟩ := List.mem_map.mp h
        rw [← hz]
        exact Nat.le_add_right _ _⟩ hl _ hheap X2
  exact ⟨t, step t a1, b1⟩
/-- System.arraycopy(a, 0, b, 0, c) -/
theorem w_copyL (C : Cx Γ own cc nL ret rm nm) {idx i j m1 m2 c : Nat} {x : Int32} (hd : decode cc pc = .ok (.invokestatic idx, 3)) (hl1 : Cond.methodLink own idx arraycopyName ∈ tg) (hl2 : Cond.native arraycopyName ∈ tg) (hl3 : Cond.static arraycopyName ∈ tg) (hl4 : Cond.initialized "java/lang/System" ∈ tg) (hk1 : K i = (103, m1)) (hk2 : K j = (103, m2)) (hx : x = nI c) (hc1 : c ≤ m1) (hc2 : c ≤ m2) (hm : c < 2 ^ 31) (hfr : 1 ≤ rm.frames) (hlo : (st.map fun v => v.category).sum + 18 ≤ rm.locals) (hp : pc + 3 = pc2)
    (kk : wp Γ cells slots Q pc2 lo st n K I (up1 L j (fun q => if q < c then L i q else L j q)) R) : wp Γ cells slots Q pc lo (.int x :: .int 0 :: .ref j :: .int 0 :: .ref i :: st) n K I L R := by
  subst hp; subst hx; intro H locs ls hW hS hl
  have hts := C.2.2.2.2.2.1
  have hKK := C.2.2.2.2.2.2.2.1.1
  have hRr := C.2.2.2.2.2.2.2.2.1
  have hi : i < n := hW.lt hk1 (by simp)
  have hj : j < n := hW.lt hk2 (by simp)
  have e : ((fun v : Value => v.category) ∘ cv (gz Γ)) = (fun v : Value => v.category) := funext (fun v => cv_cat (gz Γ) v)
  have hcl : (nI c).toNatClampNeg = c := nI_clamp (by omega)
  have hcI : (nI c).toInt = (c : Int) := nI_toInt hm
  have hati := hW.2.2 i _ (wl_get hi)
  rw [cel_l hk1] at hati
  have hatj := hW.2.2 j _ (wl_get hj)
  rw [cel_l hk2] at hatj
  have h0 : H[gz Γ + i]? = some (vp_cell (gT Γ 103) (m1, .inr (.inl (L i)))) := hati
  have h1 : H[gz Γ + j]? = some (vp_cell (gT Γ 103) (m2, .inr (.inl (L j)))) := hatj
  obtain ⟨-, k0, hk0, cm0, hkk0⟩ := (hKK.2 3 (gT Γ 103, .long) rfl).1 m1 (fun q => .long (L i q))
  intro T hT X
  obtain ⟨vm2, X2, step⟩ := X.arraycopy C.1 C.2.2.2.2.1 (hts _ hl1) (hts _ hl2) (hts _ hl3) (hts _ hl4) (src := gz Γ + i) (dst := gz Γ + j) (cs := vp_cell (gT Γ 103) (m1, .inr (.inl (L i)))) (cd := vp_cell (gT Γ 103) (m2, .inr (.inl (L j)))) (srcPos := 0) (destPos := 0) (n := nI c) (by rw [hT]; exact h0) (by rw [hT]; exact h1)
    (fun _ h => by cases h) (fun _ h => by cases h) (fun h => by cases h) (fun h => by cases h) hk0 hk0 hkk0 hkk0 (by rfl) (by decide) (by decide) (nI_pos hm)
    (by rw [hcI]; show ¬ (0 : Int) + _ > ((arrV (gT Γ 103) m1 (fun q => .long (L i q))).slots.size : Int); rw [arrV_size]; omega)
    (by rw [hcI]; show ¬ (0 : Int) + _ > ((arrV (gT Γ 103) m2 (fun q => .long (L j q))).slots.size : Int); rw [arrV_size]; omega)
    (fun vm3 _ q hq => by
      rw [hcl] at hq
      have e2 : (vp_cell (gT Γ 103) (m1, .inr (.inl (L i)))).slots.getD ((0 : Int32).toNatClampNeg + q) .null = .long (L i (0 + q)) := by
        show (arrV (gT Γ 103) m1 (fun q => .long (L i q))).slots.getD (0 + q) _ = _
        rw [Array.getD_eq_getD_getElem?, arrV_read _ _ (by omega)]
        rfl
      rw [e2]
      exact ⟨rfl, trivial⟩)
    (g := F0 (gm Γ) pc ls (.int (nI c) :: .int 0 :: .ref (gz Γ + j) :: .int 0 :: .ref (gz Γ + i) :: st.map (cv (gz Γ)))) rfl hl.1 (rest := st.map (cv (gz Γ))) rfl (by rw [C.2.1]; exact hd) (by rw [hRr]; exact hfr) (by rw [hRr, List.map_map, e]; show 2 * 0 + _ + 18 ≤ _; rw [Nat.mul_zero, Nat.zero_add]; exact hlo)
  have e1 : copied (vp_cell (gT Γ 103) (m1, .inr (.inl (L i)))) (vp_cell (gT Γ 103) (m2, .inr (.inl (L j)))) 0 0 (nI c) = vp_cell (gT Γ 103) (m2, .inr (.inl (va_cpy (L i) (L j) 0 0 c))) := by
    have := va_copied (fun z => .long z) (gT Γ 103) (gT Γ 103) (n0 := m1) (n1 := m2) (sp := 0) (dp := 0) (n := c) (L i) (L j) (by omega)
    unfold copied
    rw [hcl]
    exact this
  rw [e1] at X2 step
  have hlt : gz Γ + j < H.size := (Array.getElem?_eq_some_iff.mp h1).1
  have hheap : ((T.setVm vm2).setCell (gz Γ + j) (vp_cell (gT Γ 103) (m2, .inr (.inl (va_cpy (L i) (L j) 0 0 c))))).heap = H.setIfInBounds (gz Γ + j) (vp_cell (gT Γ 103) (m2, .inr (.inl (va_cpy (L i) (L j) 0 0 c)))) := by rw [← hT]; rfl
  have oq : ∀ q : Nat, q ≠ gz Γ + j → (H.setIfInBounds (gz Γ + j) (vp_cell (gT Γ 103) (m2, .inr (.inl (va_cpy (L i) (L j) 0 0 c)))))[q]? = H[q]? := fun q hq => by simp [Array.getElem?_setIfInBounds, Ne.symm hq]
  obtain ⟨t, a1, b1⟩ := kk _ _ ls (hW.put (i := j) (H1 := H.setIfInBounds (gz Γ + j) (vp_cell (gT Γ 103) (m2, .inr (.inl (va_cpy (L i) (L j) 0 0 c))))) (by simp) oq (by
      rw [cel_l hk2, up1_s]
      show (H.setIfInBounds (gz Γ + j) _)[gz Γ + j]? = some (vp_cell _ _)
      rw [Array.getElem?_setIfInBounds, if_pos rfl, if_pos hlt]
      congr 5
      funext q
      simp [va_cpy]) (fun a ha => ⟨rfl, up1_n _ _ _ ha, rfl⟩)) ⟨by simp; exact hS.1, fun q g1 g2 => by
      rw [oq q (fun e => g2 (by rw [e]; exact Nat.le_add_right _ _))]
      exact hS.2.1 q g1 g2, fun q hq => by
      rcases List.mem_append.mp hq with h | h
      · exact hS.2.2 q h
      · obtain ⟨z, -, hz⟩ := List.mem_map.mp h
        rw [← hz]
        exact Nat.le_add_right _ _⟩ hl _ hheap X2
  exact ⟨t, step t a1, b1⟩
end MORE
end
section
theorem clX0 : ClOK 0 RX0 TX0 1 tyX0 := ⟨rfl, by decide +kernel, tyX0_ok, nmX0, by decide, rfl⟩
theorem clX1 : ClOK 1 RX1 TX1 5 tyX1 := ⟨rfl, by decide +kernel, tyX1_ok, nmX1, by decide, rfl⟩
theorem clX2 : ClOK 2 RX2 TX2 8 tyX2 := ⟨rfl, by decide +kernel, tyX2_ok, nmX2, by decide, rfl⟩
theorem clX3 : ClOK 3 RX3 TX3 2 tyX3 := ⟨rfl, by decide +kernel, tyX3_ok, nmX3, by decide, rfl⟩
theorem clX4 : ClOK 4 RX4 TX4 16 tyX4 := ⟨rfl, by decide +kernel, tyX4_ok, nmX4, by decide, rfl⟩
theorem clX5 : ClOK 5 RX5 TX5 4 tyX5 := ⟨rfl, by decide +kernel, tyX5_ok, nmX5, by decide, rfl⟩
theorem clX6 : ClOK 6 RX6 TX6 8 tyX6 := ⟨rfl, by decide +kernel, tyX6_ok, nmX6, by decide, rfl⟩
theorem clX7 : ClOK 7 RX7 TX7 2 tyX7 := ⟨rfl, by decide +kernel, tyX7_ok, nmX7, by decide, rfl⟩
theorem clX8 : ClOK 8 RX8 TX8 3 tyX8 := ⟨rfl, by decide +kernel, tyX8_ok, nmX8, by decide, rfl⟩
theorem clX9 : ClOK 9 RX9 TX9 3 tyX9 := ⟨rfl, by decide +kernel, tyX9_ok, nmX9, by decide, rfl⟩
theorem clX10 : ClOK 10 RX10 TX10 8 tyX10 := ⟨rfl, by decide +kernel, tyX10_ok, nmX10, by decide, rfl⟩
theorem clX11 : ClOK 11 RX11 TX11 23 tyX11 := ⟨rfl, by decide +kernel, tyX11_ok, nmX11, by decide, rfl⟩
theorem fl_X7_9 : FLk RX7 9 7 0 1 (.array .byte) := ⟨RX7, TX7, 2, tyX7, clX7, by decide, mem_tg (List.mem_of_getElem? (i := 70) (by decide +kernel)) rfl, rfl, by decide +kernel, rfl, rfl⟩
theorem fl_X4_137 : FLk RX4 137 7 0 1 (.array .byte) := ⟨RX7, TX7, 2, tyX7, clX7, by decide, mem_tg (List.mem_of_getElem? (i := 71) (by decide +kernel)) rfl, rfl, by decide +kernel, rfl, rfl⟩
theorem fl_X7_15 : FLk RX7 15 7 1 0 .int := ⟨RX7, TX7, 2, tyX7, clX7, by decide, mem_tg (List.mem_of_getElem? (i := 72) (by decide +kernel)) rfl, rfl, by decide +kernel, rfl, rfl⟩
theorem fl_X10_75 : FLk RX10 75 7 1 0 .int := ⟨RX7, TX7, 2, tyX7, clX7, by decide, mem_tg (List.mem_of_getElem? (i := 73) (by decide +kernel)) rfl, rfl, by decide +kernel, rfl, rfl⟩
theorem fl_X4_134 : FLk RX4 134 7 1 0 .int := ⟨RX7, TX7, 2, tyX7, clX7, by decide, mem_tg (List.mem_of_getElem? (i := 74) (by decide +kernel)) rfl, rfl, by decide +kernel, rfl, rfl⟩
theorem fl_X5_9 : FLk RX5 9 5 0 1 (.array .int) := ⟨RX5, TX5, 4, tyX5, clX5, by decide, mem_tg (List.mem_of_getElem? (i := 93) (by decide +kernel)) rfl, rfl, by decide +kernel, rfl, rfl⟩
theorem fl_X8_30 : FLk RX8 30 5 0 1 (.array .int) := ⟨RX5, TX5, 4, tyX5, clX5, by decide, mem_tg (List.mem_of_getElem? (i := 94) (by decide +kernel)) rfl, rfl, by decide +kernel, rfl, rfl⟩
theorem fl_X9_36 : FLk RX9 36 5 0 1 (.array .int) := ⟨RX5, TX5, 4, tyX5, clX5, by decide, mem_tg (List.mem_of_getElem? (i := 95) (by decide +kernel)) rfl, rfl, by decide +kernel, rfl, rfl⟩
theorem fl_X3_39 : FLk RX3 39 5 0 1 (.array .int) := ⟨RX5, TX5, 4, tyX5, clX5, by decide, mem_tg (List.mem_of_getElem? (i := 96) (by decide +kernel)) rfl, rfl, by decide +kernel, rfl, rfl⟩
theorem fl_X1_31 : FLk RX1 31 5 0 1 (.array .int) := ⟨RX5, TX5, 4, tyX5, clX5, by decide, mem_tg (List.mem_of_getElem? (i := 97) (by decide +kernel)) rfl, rfl, by decide +kernel, rfl, rfl⟩
theorem fl_X6_62 : FLk RX6 62 5 0 1 (.array .int) := ⟨RX5, TX5, 4, tyX5, clX5, by decide, mem_tg (List.mem_of_getElem? (i := 98) (by decide +kernel)) rfl, rfl, by decide +kernel, rfl, rfl⟩
theorem fl_X10_103 : FLk RX10 103 5 0 1 (.array .int) := ⟨RX5, TX5, 4, tyX5, clX5, by decide, mem_tg (List.mem_of_getElem? (i := 99) (by decide +kernel)) rfl, rfl, by decide +kernel, rfl, rfl⟩
theorem fl_X5_15 : FLk RX5 15 5 1 1 (.array .int) := ⟨RX5, TX5, 4, tyX5, clX5, by decide, mem_tg (List.mem_of_getElem? (i := 100) (by decide +kernel)) rfl, rfl, by decide +kernel, rfl, rfl⟩
theorem fl_X8_22 : FLk RX8 22 5 1 1 (.array .int) := ⟨RX5, TX5, 4, tyX5, clX5, by decide, mem_tg (List.mem_of_getElem? (i := 101) (by decide +kernel)) rfl, rfl, by decide +kernel, rfl, rfl⟩
theorem fl_X0_27 : FLk RX0 27 5 1 1 (.array .int) := ⟨RX5, TX5, 4, tyX5, clX5, by decide, mem_tg (List.mem_of_getElem? (i := 102) (by decide +kernel)) rfl, rfl, by decide +kernel, rfl, rfl⟩
theorem fl_X9_27 : FLk RX9 27 5 1 1 (.array .int) := ⟨RX5, TX5, 4, tyX5, clX5, by decide, mem_tg (List.mem_of_getElem? (i := 103) (by decide +kernel)) rfl, rfl, by decide +kernel, rfl, rfl⟩
theorem fl_X1_34 : FLk RX1 34 5 1 1 (.array .int) := ⟨RX5, TX5, 4, tyX5, clX5, by decide, mem_tg (List.mem_of_getElem? (i := 104) (by decide +kernel)) rfl, rfl, by decide +kernel, rfl, rfl⟩
theorem fl_X10_107 : FLk RX10 107 5 1 1 (.array .int) := ⟨RX5, TX5, 4, tyX5, clX5, by decide, mem_tg (List.mem_of_getElem? (i := 105) (by decide +kernel)) rfl, rfl, by decide +kernel, rfl, rfl⟩
theorem fl_X5_18 : FLk RX5 18 5 2 0 .int := ⟨RX5, TX5, 4, tyX5, clX5, by decide, mem_tg (List.mem_of_getElem? (i := 106) (by decide +kernel)) rfl, rfl, by decide +kernel, rfl, rfl⟩
theorem fl_X3_20 : FLk RX3 20 5 2 0 .int := ⟨RX5, TX5, 4, tyX5, clX5, by decide, mem_tg (List.mem_of_getElem? (i := 107) (by decide +kernel)) rfl, rfl, by decide +kernel, rfl, rfl⟩
theorem fl_X0_15 : FLk RX0 15 5 2 0 .int := ⟨RX5, TX5, 4, tyX5, clX5, by decide, mem_tg (List.mem_of_getElem? (i := 108) (by decide +kernel)) rfl, rfl, by decide +kernel, rfl, rfl⟩
theorem fl_X6_32 : FLk RX6 32 5 2 0 .int := ⟨RX5, TX5, 4, tyX5, clX5, by decide, mem_tg (List.mem_of_getElem? (i := 109) (by decide +kernel)) rfl, rfl, by decide +kernel, rfl, rfl⟩
theorem fl_X8_27 : FLk RX8 27 5 2 0 .int := ⟨RX5, TX5, 4, tyX5, clX5, by decide, mem_tg (List.mem_of_getElem? (i := 110) (by decide +kernel)) rfl, rfl, by decide +kernel, rfl, rfl⟩
theorem fl_X9_24 : FLk RX9 24 5 2 0 .int := ⟨RX5, TX5, 4, tyX5, clX5, by decide, mem_tg (List.mem_of_getElem? (i := 111) (by decide +kernel)) rfl, rfl, by decide +kernel, rfl, rfl⟩
theorem fl_X1_28 : FLk RX1 28 5 2 0 .int := ⟨RX5, TX5, 4, tyX5, clX5, by decide, mem_tg (List.mem_of_getElem? (i := 112) (by decide +kernel)) rfl, rfl, by decide +kernel, rfl, rfl⟩
theorem fl_X10_98 : FLk RX10 98 5 2 0 .int := ⟨RX5, TX5, 4, tyX5, clX5, by decide, mem_tg (List.mem_of_getElem? (i := 113) (by decide +kernel)) rfl, rfl, by decide +kernel, rfl, rfl⟩
theorem fl_X4_125 : FLk RX4 125 5 2 0 .int := ⟨RX5, TX5, 4, tyX5, clX5, by decide, mem_tg (List.mem_of_getElem? (i := 114) (by decide +kernel)) rfl, rfl, by decide +kernel, rfl, rfl⟩
theorem fl_X5_22 : FLk RX5 22 5 3 0 .int := ⟨RX5, TX5, 4, tyX5, clX5, by decide, mem_tg (List.mem_of_getElem? (i := 115) (by decide +kernel)) rfl, rfl, by decide +kernel, rfl, rfl⟩
theorem fl_X4_74 : FLk RX4 74 5 3 0 .int := ⟨RX5, TX5, 4, tyX5, clX5, by decide, mem_tg (List.mem_of_getElem? (i := 116) (by decide +kernel)) rfl, rfl, by decide +kernel, rfl, rfl⟩
theorem fl_X10_110 : FLk RX10 110 5 3 0 .int := ⟨RX5, TX5, 4, tyX5, clX5, by decide, mem_tg (List.mem_of_getElem? (i := 117) (by decide +kernel)) rfl, rfl, by decide +kernel, rfl, rfl⟩
theorem fl_X4_12 : FLk RX4 12 4 0 1 (.object "CarillonDesk$Score") := ⟨RX4, TX4, 16, tyX4, clX4, by decide, mem_tg (List.mem_of_getElem? (i := 128) (by decide +kernel)) rfl, rfl, by decide +kernel, rfl, rfl⟩
theorem fl_X10_90 : FLk RX10 90 4 0 1 (.object "CarillonDesk$Score") := ⟨RX4, TX4, 16, tyX4, clX4, by decide, mem_tg (List.mem_of_getElem? (i := 129) (by decide +kernel)) rfl, rfl, by decide +kernel, rfl, rfl⟩
theorem fl_X4_68 : FLk RX4 68 4 1 0 .int := ⟨RX4, TX4, 16, tyX4, clX4, by decide, mem_tg (List.mem_of_getElem? (i := 130) (by decide +kernel)) rfl, rfl, by decide +kernel, rfl, rfl⟩
theorem fl_X10_82 : FLk RX10 82 4 1 0 .int := ⟨RX4, TX4, 16, tyX4, clX4, by decide, mem_tg (List.mem_of_getElem? (i := 131) (by decide +kernel)) rfl, rfl, by decide +kernel, rfl, rfl⟩
theorem fl_X4_80 : FLk RX4 80 4 2 0 .int := ⟨RX4, TX4, 16, tyX4, clX4, by decide, mem_tg (List.mem_of_getElem? (i := 132) (by decide +kernel)) rfl, rfl, by decide +kernel, rfl, rfl⟩
theorem fl_X10_86 : FLk RX10 86 4 2 0 .int := ⟨RX4, TX4, 16, tyX4, clX4, by decide, mem_tg (List.mem_of_getElem? (i := 133) (by decide +kernel)) rfl, rfl, by decide +kernel, rfl, rfl⟩
theorem fl_X4_31 : FLk RX4 31 4 3 1 (.object "CarillonDesk$Tape") := ⟨RX4, TX4, 16, tyX4, clX4, by decide, mem_tg (List.mem_of_getElem? (i := 134) (by decide +kernel)) rfl, rfl, by decide +kernel, rfl, rfl⟩
theorem fl_X4_18 : FLk RX4 18 4 4 1 (.array .int) := ⟨RX4, TX4, 16, tyX4, clX4, by decide, mem_tg (List.mem_of_getElem? (i := 135) (by decide +kernel)) rfl, rfl, by decide +kernel, rfl, rfl⟩
theorem fl_X4_22 : FLk RX4 22 4 5 1 (.array .int) := ⟨RX4, TX4, 16, tyX4, clX4, by decide, mem_tg (List.mem_of_getElem? (i := 136) (by decide +kernel)) rfl, rfl, by decide +kernel, rfl, rfl⟩
theorem fl_X4_25 : FLk RX4 25 4 6 1 (.array .int) := ⟨RX4, TX4, 16, tyX4, clX4, by decide, mem_tg (List.mem_of_getElem? (i := 137) (by decide +kernel)) rfl, rfl, by decide +kernel, rfl, rfl⟩
theorem fl_X4_28 : FLk RX4 28 4 7 1 (.array .int) := ⟨RX4, TX4, 16, tyX4, clX4, by decide, mem_tg (List.mem_of_getElem? (i := 138) (by decide +kernel)) rfl, rfl, by decide +kernel, rfl, rfl⟩
theorem fl_X4_57 : FLk RX4 57 4 8 0 .int := ⟨RX4, TX4, 16, tyX4, clX4, by decide, mem_tg (List.mem_of_getElem? (i := 139) (by decide +kernel)) rfl, rfl, by decide +kernel, rfl, rfl⟩
theorem fl_X4_61 : FLk RX4 61 4 9 0 .int := ⟨RX4, TX4, 16, tyX4, clX4, by decide, mem_tg (List.mem_of_getElem? (i := 140) (by decide +kernel)) rfl, rfl, by decide +kernel, rfl, rfl⟩
theorem fl_X4_122 : FLk RX4 122 4 10 0 .int := ⟨RX4, TX4, 16, tyX4, clX4, by decide, mem_tg (List.mem_of_getElem? (i := 141) (by decide +kernel)) rfl, rfl, by decide +kernel, rfl, rfl⟩
theorem fl_X4_83 : FLk RX4 83 4 11 0 .int := ⟨RX4, TX4, 16, tyX4, clX4, by decide, mem_tg (List.mem_of_getElem? (i := 142) (by decide +kernel)) rfl, rfl, by decide +kernel, rfl, rfl⟩
theorem fl_X4_71 : FLk RX4 71 4 12 0 .int := ⟨RX4, TX4, 16, tyX4, clX4, by decide, mem_tg (List.mem_of_getElem? (i := 143) (by decide +kernel)) rfl, rfl, by decide +kernel, rfl, rfl⟩
theorem fl_X4_103 : FLk RX4 103 4 13 0 .int := ⟨RX4, TX4, 16, tyX4, clX4, by decide, mem_tg (List.mem_of_getElem? (i := 144) (by decide +kernel)) rfl, rfl, by decide +kernel, rfl, rfl⟩
theorem fl_X4_106 : FLk RX4 106 4 14 0 .int := ⟨RX4, TX4, 16, tyX4, clX4, by decide, mem_tg (List.mem_of_getElem? (i := 145) (by decide +kernel)) rfl, rfl, by decide +kernel, rfl, rfl⟩
theorem fl_X4_94 : FLk RX4 94 4 15 0 .int := ⟨RX4, TX4, 16, tyX4, clX4, by decide, mem_tg (List.mem_of_getElem? (i := 146) (by decide +kernel)) rfl, rfl, by decide +kernel, rfl, rfl⟩
theorem fl_X8_9 : FLk RX8 9 8 0 1 (.array .int) := ⟨RX8, TX8, 3, tyX8, clX8, by decide, mem_tg (List.mem_of_getElem? (i := 194) (by decide +kernel)) rfl, rfl, by decide +kernel, rfl, rfl⟩
theorem fl_X10_146 : FLk RX10 146 8 0 1 (.array .int) := ⟨RX8, TX8, 3, tyX8, clX8, by decide, mem_tg (List.mem_of_getElem? (i := 195) (by decide +kernel)) rfl, rfl, by decide +kernel, rfl, rfl⟩
theorem fl_X8_15 : FLk RX8 15 8 1 0 .int := ⟨RX8, TX8, 3, tyX8, clX8, by decide, mem_tg (List.mem_of_getElem? (i := 196) (by decide +kernel)) rfl, rfl, by decide +kernel, rfl, rfl⟩
theorem fl_X10_151 : FLk RX10 151 8 1 0 .int := ⟨RX8, TX8, 3, tyX8, clX8, by decide, mem_tg (List.mem_of_getElem? (i := 197) (by decide +kernel)) rfl, rfl, by decide +kernel, rfl, rfl⟩
theorem fl_X8_19 : FLk RX8 19 8 2 1 (.array .int) := ⟨RX8, TX8, 3, tyX8, clX8, by decide, mem_tg (List.mem_of_getElem? (i := 198) (by decide +kernel)) rfl, rfl, by decide +kernel, rfl, rfl⟩
theorem fl_X1_9 : FLk RX1 9 1 0 1 (.array .int) := ⟨RX1, TX1, 5, tyX1, clX1, by decide, mem_tg (List.mem_of_getElem? (i := 212) (by decide +kernel)) rfl, rfl, by decide +kernel, rfl, rfl⟩
theorem fl_X9_33 : FLk RX9 33 1 0 1 (.array .int) := ⟨RX1, TX1, 5, tyX1, clX1, by decide, mem_tg (List.mem_of_getElem? (i := 213) (by decide +kernel)) rfl, rfl, by decide +kernel, rfl, rfl⟩
theorem fl_X1_15 : FLk RX1 15 1 1 1 (.array .int) := ⟨RX1, TX1, 5, tyX1, clX1, by decide, mem_tg (List.mem_of_getElem? (i := 214) (by decide +kernel)) rfl, rfl, by decide +kernel, rfl, rfl⟩
theorem fl_X9_30 : FLk RX9 30 1 1 1 (.array .int) := ⟨RX1, TX1, 5, tyX1, clX1, by decide, mem_tg (List.mem_of_getElem? (i := 215) (by decide +kernel)) rfl, rfl, by decide +kernel, rfl, rfl⟩
theorem fl_X0_33 : FLk RX0 33 1 1 1 (.array .int) := ⟨RX1, TX1, 5, tyX1, clX1, by decide, mem_tg (List.mem_of_getElem? (i := 216) (by decide +kernel)) rfl, rfl, by decide +kernel, rfl, rfl⟩
theorem fl_X1_18 : FLk RX1 18 1 2 0 .int := ⟨RX1, TX1, 5, tyX1, clX1, by decide, mem_tg (List.mem_of_getElem? (i := 217) (by decide +kernel)) rfl, rfl, by decide +kernel, rfl, rfl⟩
theorem fl_X9_21 : FLk RX9 21 1 2 0 .int := ⟨RX1, TX1, 5, tyX1, clX1, by decide, mem_tg (List.mem_of_getElem? (i := 218) (by decide +kernel)) rfl, rfl, by decide +kernel, rfl, rfl⟩
theorem fl_X0_30 : FLk RX0 30 1 2 0 .int := ⟨RX1, TX1, 5, tyX1, clX1, by decide, mem_tg (List.mem_of_getElem? (i := 219) (by decide +kernel)) rfl, rfl, by decide +kernel, rfl, rfl⟩
theorem fl_X10_199 : FLk RX10 199 1 2 0 .int := ⟨RX1, TX1, 5, tyX1, clX1, by decide, mem_tg (List.mem_of_getElem? (i := 220) (by decide +kernel)) rfl, rfl, by decide +kernel, rfl, rfl⟩
theorem fl_X1_22 : FLk RX1 22 1 3 0 .int := ⟨RX1, TX1, 5, tyX1, clX1, by decide, mem_tg (List.mem_of_getElem? (i := 221) (by decide +kernel)) rfl, rfl, by decide +kernel, rfl, rfl⟩
theorem fl_X9_15 : FLk RX9 15 1 3 0 .int := ⟨RX1, TX1, 5, tyX1, clX1, by decide, mem_tg (List.mem_of_getElem? (i := 222) (by decide +kernel)) rfl, rfl, by decide +kernel, rfl, rfl⟩
theorem fl_X10_192 : FLk RX10 192 1 3 0 .int := ⟨RX1, TX1, 5, tyX1, clX1, by decide, mem_tg (List.mem_of_getElem? (i := 223) (by decide +kernel)) rfl, rfl, by decide +kernel, rfl, rfl⟩
theorem fl_X1_25 : FLk RX1 25 1 4 0 .int := ⟨RX1, TX1, 5, tyX1, clX1, by decide, mem_tg (List.mem_of_getElem? (i := 224) (by decide +kernel)) rfl, rfl, by decide +kernel, rfl, rfl⟩
theorem fl_X10_189 : FLk RX10 189 1 4 0 .int := ⟨RX1, TX1, 5, tyX1, clX1, by decide, mem_tg (List.mem_of_getElem? (i := 225) (by decide +kernel)) rfl, rfl, by decide +kernel, rfl, rfl⟩
theorem fl_X0_9 : FLk RX0 9 0 0 1 (.array .long) := ⟨RX0, TX0, 1, tyX0, clX0, by decide, mem_tg (List.mem_of_getElem? (i := 243) (by decide +kernel)) rfl, rfl, by decide +kernel, rfl, rfl⟩
theorem fl_X10_216 : FLk RX10 216 0 0 1 (.array .long) := ⟨RX0, TX0, 1, tyX0, clX0, by decide, mem_tg (List.mem_of_getElem? (i := 244) (by decide +kernel)) rfl, rfl, by decide +kernel, rfl, rfl⟩
theorem fl_X2_12 : FLk RX2 12 2 0 1 (.object "CarillonDesk$Score") := ⟨RX2, TX2, 8, tyX2, clX2, by decide, mem_tg (List.mem_of_getElem? (i := 249) (by decide +kernel)) rfl, rfl, by decide +kernel, rfl, rfl⟩
theorem fl_X10_38 : FLk RX10 38 2 0 1 (.object "CarillonDesk$Score") := ⟨RX2, TX2, 8, tyX2, clX2, by decide, mem_tg (List.mem_of_getElem? (i := 250) (by decide +kernel)) rfl, rfl, by decide +kernel, rfl, rfl⟩
theorem fl_X2_21 : FLk RX2 21 2 1 1 (.object "CarillonDesk$Tones") := ⟨RX2, TX2, 8, tyX2, clX2, by decide, mem_tg (List.mem_of_getElem? (i := 251) (by decide +kernel)) rfl, rfl, by decide +kernel, rfl, rfl⟩
theorem fl_X10_142 : FLk RX10 142 2 1 1 (.object "CarillonDesk$Tones") := ⟨RX2, TX2, 8, tyX2, clX2, by decide, mem_tg (List.mem_of_getElem? (i := 252) (by decide +kernel)) rfl, rfl, by decide +kernel, rfl, rfl⟩
theorem fl_X2_28 : FLk RX2 28 2 2 1 (.object "CarillonDesk$Drum") := ⟨RX2, TX2, 8, tyX2, clX2, by decide, mem_tg (List.mem_of_getElem? (i := 253) (by decide +kernel)) rfl, rfl, by decide +kernel, rfl, rfl⟩
theorem fl_X10_162 : FLk RX10 162 2 2 1 (.object "CarillonDesk$Drum") := ⟨RX2, TX2, 8, tyX2, clX2, by decide, mem_tg (List.mem_of_getElem? (i := 254) (by decide +kernel)) rfl, rfl, by decide +kernel, rfl, rfl⟩
theorem fl_X2_35 : FLk RX2 35 2 3 1 (.object "CarillonDesk$Clappers") := ⟨RX2, TX2, 8, tyX2, clX2, by decide, mem_tg (List.mem_of_getElem? (i := 255) (by decide +kernel)) rfl, rfl, by decide +kernel, rfl, rfl⟩
theorem fl_X10_200 : FLk RX10 200 2 3 1 (.object "CarillonDesk$Clappers") := ⟨RX2, TX2, 8, tyX2, clX2, by decide, mem_tg (List.mem_of_getElem? (i := 256) (by decide +kernel)) rfl, rfl, by decide +kernel, rfl, rfl⟩
theorem fl_X2_39 : FLk RX2 39 2 4 0 .int := ⟨RX2, TX2, 8, tyX2, clX2, by decide, mem_tg (List.mem_of_getElem? (i := 257) (by decide +kernel)) rfl, rfl, by decide +kernel, rfl, rfl⟩
theorem fl_X10_85 : FLk RX10 85 2 4 0 .int := ⟨RX2, TX2, 8, tyX2, clX2, by decide, mem_tg (List.mem_of_getElem? (i := 258) (by decide +kernel)) rfl, rfl, by decide +kernel, rfl, rfl⟩
theorem fl_X2_43 : FLk RX2 43 2 5 0 .int := ⟨RX2, TX2, 8, tyX2, clX2, by decide, mem_tg (List.mem_of_getElem? (i := 259) (by decide +kernel)) rfl, rfl, by decide +kernel, rfl, rfl⟩
theorem fl_X10_89 : FLk RX10 89 2 5 0 .int := ⟨RX2, TX2, 8, tyX2, clX2, by decide, mem_tg (List.mem_of_getElem? (i := 260) (by decide +kernel)) rfl, rfl, by decide +kernel, rfl, rfl⟩
theorem fl_X2_46 : FLk RX2 46 2 6 0 .int := ⟨RX2, TX2, 8, tyX2, clX2, by decide, mem_tg (List.mem_of_getElem? (i := 261) (by decide +kernel)) rfl, rfl, by decide +kernel, rfl, rfl⟩
theorem fl_X10_120 : FLk RX10 120 2 6 0 .int := ⟨RX2, TX2, 8, tyX2, clX2, by decide, mem_tg (List.mem_of_getElem? (i := 262) (by decide +kernel)) rfl, rfl, by decide +kernel, rfl, rfl⟩
theorem fl_X2_49 : FLk RX2 49 2 7 0 .int := ⟨RX2, TX2, 8, tyX2, clX2, by decide, mem_tg (List.mem_of_getElem? (i := 263) (by decide +kernel)) rfl, rfl, by decide +kernel, rfl, rfl⟩
theorem fl_X10_123 : FLk RX10 123 2 7 0 .int := ⟨RX2, TX2, 8, tyX2, clX2, by decide, mem_tg (List.mem_of_getElem? (i := 264) (by decide +kernel)) rfl, rfl, by decide +kernel, rfl, rfl⟩
theorem fl_X6_9 : FLk RX6 9 6 0 1 (.array .int) := ⟨RX6, TX6, 8, tyX6, clX6, by decide, mem_tg (List.mem_of_getElem? (i := 289) (by decide +kernel)) rfl, rfl, by decide +kernel, rfl, rfl⟩
theorem fl_X0_21 : FLk RX0 21 6 0 1 (.array .int) := ⟨RX6, TX6, 8, tyX6, clX6, by decide, mem_tg (List.mem_of_getElem? (i := 290) (by decide +kernel)) rfl, rfl, by decide +kernel, rfl, rfl⟩
theorem fl_X10_133 : FLk RX10 133 6 0 1 (.array .int) := ⟨RX6, TX6, 8, tyX6, clX6, by decide, mem_tg (List.mem_of_getElem? (i := 291) (by decide +kernel)) rfl, rfl, by decide +kernel, rfl, rfl⟩
theorem fl_X6_15 : FLk RX6 15 6 1 1 (.array .int) := ⟨RX6, TX6, 8, tyX6, clX6, by decide, mem_tg (List.mem_of_getElem? (i := 292) (by decide +kernel)) rfl, rfl, by decide +kernel, rfl, rfl⟩
theorem fl_X10_136 : FLk RX10 136 6 1 1 (.array .int) := ⟨RX6, TX6, 8, tyX6, clX6, by decide, mem_tg (List.mem_of_getElem? (i := 293) (by decide +kernel)) rfl, rfl, by decide +kernel, rfl, rfl⟩
theorem fl_X6_44 : FLk RX6 44 6 2 0 .int := ⟨RX6, TX6, 8, tyX6, clX6, by decide, mem_tg (List.mem_of_getElem? (i := 294) (by decide +kernel)) rfl, rfl, by decide +kernel, rfl, rfl⟩
theorem fl_X10_126 : FLk RX10 126 6 2 0 .int := ⟨RX6, TX6, 8, tyX6, clX6, by decide, mem_tg (List.mem_of_getElem? (i := 295) (by decide +kernel)) rfl, rfl, by decide +kernel, rfl, rfl⟩
theorem fl_X6_71 : FLk RX6 71 6 3 0 .int := ⟨RX6, TX6, 8, tyX6, clX6, by decide, mem_tg (List.mem_of_getElem? (i := 296) (by decide +kernel)) rfl, rfl, by decide +kernel, rfl, rfl⟩
theorem fl_X10_117 : FLk RX10 117 6 3 0 .int := ⟨RX6, TX6, 8, tyX6, clX6, by decide, mem_tg (List.mem_of_getElem? (i := 297) (by decide +kernel)) rfl, rfl, by decide +kernel, rfl, rfl⟩
theorem fl_X6_21 : FLk RX6 21 6 4 1 (.object "CarillonDesk$Score") := ⟨RX6, TX6, 8, tyX6, clX6, by decide, mem_tg (List.mem_of_getElem? (i := 298) (by decide +kernel)) rfl, rfl, by decide +kernel, rfl, rfl⟩
theorem fl_X6_18 : FLk RX6 18 6 5 1 (.array .int) := ⟨RX6, TX6, 8, tyX6, clX6, by decide, mem_tg (List.mem_of_getElem? (i := 299) (by decide +kernel)) rfl, rfl, by decide +kernel, rfl, rfl⟩
theorem fl_X6_25 : FLk RX6 25 6 6 0 .int := ⟨RX6, TX6, 8, tyX6, clX6, by decide, mem_tg (List.mem_of_getElem? (i := 300) (by decide +kernel)) rfl, rfl, by decide +kernel, rfl, rfl⟩
theorem fl_X6_29 : FLk RX6 29 6 7 0 .int := ⟨RX6, TX6, 8, tyX6, clX6, by decide, mem_tg (List.mem_of_getElem? (i := 301) (by decide +kernel)) rfl, rfl, by decide +kernel, rfl, rfl⟩
theorem fl_X3_16 : FLk RX3 16 3 0 1 (.object "CarillonDesk$Score") := ⟨RX3, TX3, 2, tyX3, clX3, by decide, mem_tg (List.mem_of_getElem? (i := 327) (by decide +kernel)) rfl, rfl, by decide +kernel, rfl, rfl⟩
theorem fl_X3_11 : FLk RX3 11 3 1 1 (.array (.array .int)) := ⟨RX3, TX3, 2, tyX3, clX3, by decide, mem_tg (List.mem_of_getElem? (i := 328) (by decide +kernel)) rfl, rfl, by decide +kernel, rfl, rfl⟩
theorem fl_X9_39 : FLk RX9 39 9 0 0 .int := ⟨RX9, TX9, 3, tyX9, clX9, by decide, mem_tg (List.mem_of_getElem? (i := 340) (by decide +kernel)) rfl, rfl, by decide +kernel, rfl, rfl⟩
theorem fl_X10_179 : FLk RX10 179 9 0 0 .int := ⟨RX9, TX9, 3, tyX9, clX9, by decide, mem_tg (List.mem_of_getElem? (i := 341) (by decide +kernel)) rfl, rfl, by decide +kernel, rfl, rfl⟩
theorem fl_X9_42 : FLk RX9 42 9 1 0 .int := ⟨RX9, TX9, 3, tyX9, clX9, by decide, mem_tg (List.mem_of_getElem? (i := 342) (by decide +kernel)) rfl, rfl, by decide +kernel, rfl, rfl⟩
theorem fl_X10_186 : FLk RX10 186 9 1 0 .int := ⟨RX9, TX9, 3, tyX9, clX9, by decide, mem_tg (List.mem_of_getElem? (i := 343) (by decide +kernel)) rfl, rfl, by decide +kernel, rfl, rfl⟩
theorem fl_X9_9 : FLk RX9 9 9 2 1 (.array .int) := ⟨RX9, TX9, 3, tyX9, clX9, by decide, mem_tg (List.mem_of_getElem? (i := 344) (by decide +kernel)) rfl, rfl, by decide +kernel, rfl, rfl⟩
theorem fl_X10_10 : FLk RX10 10 10 0 1 (.object "CarillonDesk$Tape") := ⟨RX10, TX10, 8, tyX10, clX10, by decide, mem_tg (List.mem_of_getElem? (i := 352) (by decide +kernel)) rfl, rfl, by decide +kernel, rfl, rfl⟩
theorem fl_X10_21 : FLk RX10 21 10 1 1 (.object "CarillonDesk$Reader") := ⟨RX10, TX10, 8, tyX10, clX10, by decide, mem_tg (List.mem_of_getElem? (i := 353) (by decide +kernel)) rfl, rfl, by decide +kernel, rfl, rfl⟩
theorem fl_X10_28 : FLk RX10 28 10 2 1 (.object "CarillonDesk$Matter") := ⟨RX10, TX10, 8, tyX10, clX10, by decide, mem_tg (List.mem_of_getElem? (i := 354) (by decide +kernel)) rfl, rfl, by decide +kernel, rfl, rfl⟩
theorem fl_X10_32 : FLk RX10 32 10 3 1 (.array (.object "CarillonDesk$Matter")) := ⟨RX10, TX10, 8, tyX10, clX10, by decide, mem_tg (List.mem_of_getElem? (i := 355) (by decide +kernel)) rfl, rfl, by decide +kernel, rfl, rfl⟩
theorem fl_X10_45 : FLk RX10 45 10 4 1 (.object "CarillonDesk$Setting") := ⟨RX10, TX10, 8, tyX10, clX10, by decide, mem_tg (List.mem_of_getElem? (i := 356) (by decide +kernel)) rfl, rfl, by decide +kernel, rfl, rfl⟩
theorem fl_X10_52 : FLk RX10 52 10 5 1 (.object "CarillonDesk$Need") := ⟨RX10, TX10, 8, tyX10, clX10, by decide, mem_tg (List.mem_of_getElem? (i := 357) (by decide +kernel)) rfl, rfl, by decide +kernel, rfl, rfl⟩
theorem fl_X10_59 : FLk RX10 59 10 6 1 (.object "CarillonDesk$Turns") := ⟨RX10, TX10, 8, tyX10, clX10, by decide, mem_tg (List.mem_of_getElem? (i := 358) (by decide +kernel)) rfl, rfl, by decide +kernel, rfl, rfl⟩
theorem fl_X10_63 : FLk RX10 63 10 7 0 .boolean := ⟨RX10, TX10, 8, tyX10, clX10, by decide, mem_tg (List.mem_of_getElem? (i := 359) (by decide +kernel)) rfl, rfl, by decide +kernel, rfl, rfl⟩
theorem fl_X11_7 : FLk RX11 7 11 0 1 (.array .int) := ⟨RX11, TX11, 23, tyX11, clX11, by decide, mem_tg (List.mem_of_getElem? (i := 716) (by decide +kernel)) rfl, rfl, by decide +kernel, rfl, rfl⟩
theorem fl_X11_13 : FLk RX11 13 11 1 1 (.array .long) := ⟨RX11, TX11, 23, tyX11, clX11, by decide, mem_tg (List.mem_of_getElem? (i := 717) (by decide +kernel)) rfl, rfl, by decide +kernel, rfl, rfl⟩
theorem fl_X11_17 : FLk RX11 17 11 2 1 (.array .boolean) := ⟨RX11, TX11, 23, tyX11, clX11, by decide, mem_tg (List.mem_of_getElem? (i := 718) (by decide +kernel)) rfl, rfl, by decide +kernel, rfl, rfl⟩
theorem fl_X11_21 : FLk RX11 21 11 3 1 (.array .int) := ⟨RX11, TX11, 23, tyX11, clX11, by decide, mem_tg (List.mem_of_getElem? (i := 719) (by decide +kernel)) rfl, rfl, by decide +kernel, rfl, rfl⟩
theorem fl_X11_52 : FLk RX11 52 11 4 0 .int := ⟨RX11, TX11, 23, tyX11, clX11, by decide, mem_tg (List.mem_of_getElem? (i := 720) (by decide +kernel)) rfl, rfl, by decide +kernel, rfl, rfl⟩
theorem fl_X11_62 : FLk RX11 62 11 5 0 .int := ⟨RX11, TX11, 23, tyX11, clX11, by decide, mem_tg (List.mem_of_getElem? (i := 721) (by decide +kernel)) rfl, rfl, by decide +kernel, rfl, rfl⟩
theorem fl_X11_65 : FLk RX11 65 11 6 0 .int := ⟨RX11, TX11, 23, tyX11, clX11, by decide, mem_tg (List.mem_of_getElem? (i := 722) (by decide +kernel)) rfl, rfl, by decide +kernel, rfl, rfl⟩
theorem fl_X11_56 : FLk RX11 56 11 7 0 .int := ⟨RX11, TX11, 23, tyX11, clX11, by decide, mem_tg (List.mem_of_getElem? (i := 723) (by decide +kernel)) rfl, rfl, by decide +kernel, rfl, rfl⟩
theorem fl_X11_59 : FLk RX11 59 11 8 0 .int := ⟨RX11, TX11, 23, tyX11, clX11, by decide, mem_tg (List.mem_of_getElem? (i := 724) (by decide +kernel)) rfl, rfl, by decide +kernel, rfl, rfl⟩
theorem fl_X11_76 : FLk RX11 76 11 9 0 .int := ⟨RX11, TX11, 23, tyX11, clX11, by decide, mem_tg (List.mem_of_getElem? (i := 725) (by decide +kernel)) rfl, rfl, by decide +kernel, rfl, rfl⟩
theorem fl_X11_90 : FLk RX11 90 11 10 0 .int := ⟨RX11, TX11, 23, tyX11, clX11, by decide, mem_tg (List.mem_of_getElem? (i := 726) (by decide +kernel)) rfl, rfl, by decide +kernel, rfl, rfl⟩
theorem fl_X11_93 : FLk RX11 93 11 11 0 .int := ⟨RX11, TX11, 23, tyX11, clX11, by decide, mem_tg (List.mem_of_getElem? (i := 727) (by decide +kernel)) rfl, rfl, by decide +kernel, rfl, rfl⟩
theorem fl_X11_24 : FLk RX11 24 11 12 1 (.array .int) := ⟨RX11, TX11, 23, tyX11, clX11, by decide, mem_tg (List.mem_of_getElem? (i := 728) (by decide +kernel)) rfl, rfl, by decide +kernel, rfl, rfl⟩
theorem fl_X11_27 : FLk RX11 27 11 13 1 (.array .int) := ⟨RX11, TX11, 23, tyX11, clX11, by decide, mem_tg (List.mem_of_getElem? (i := 729) (by decide +kernel)) rfl, rfl, by decide +kernel, rfl, rfl⟩
theorem fl_X11_30 : FLk RX11 30 11 14 1 (.array .int) := ⟨RX11, TX11, 23, tyX11, clX11, by decide, mem_tg (List.mem_of_getElem? (i := 730) (by decide +kernel)) rfl, rfl, by decide +kernel, rfl, rfl⟩
theorem fl_X11_87 : FLk RX11 87 11 15 0 .int := ⟨RX11, TX11, 23, tyX11, clX11, by decide, mem_tg (List.mem_of_getElem? (i := 731) (by decide +kernel)) rfl, rfl, by decide +kernel, rfl, rfl⟩
theorem fl_X11_108 : FLk RX11 108 11 16 0 .int := ⟨RX11, TX11, 23, tyX11, clX11, by decide, mem_tg (List.mem_of_getElem? (i := 732) (by decide +kernel)) rfl, rfl, by decide +kernel, rfl, rfl⟩
theorem fl_X11_33 : FLk RX11 33 11 17 1 (.array .int) := ⟨RX11, TX11, 23, tyX11, clX11, by decide, mem_tg (List.mem_of_getElem? (i := 733) (by decide +kernel)) rfl, rfl, by decide +kernel, rfl, rfl⟩
theorem fl_X11_36 : FLk RX11 36 11 18 1 (.array .int) := ⟨RX11, TX11, 23, tyX11, clX11, by decide, mem_tg (List.mem_of_getElem? (i := 734) (by decide +kernel)) rfl, rfl, by decide +kernel, rfl, rfl⟩
theorem fl_X11_39 : FLk RX11 39 11 19 1 (.array .int) := ⟨RX11, TX11, 23, tyX11, clX11, by decide, mem_tg (List.mem_of_getElem? (i := 735) (by decide +kernel)) rfl, rfl, by decide +kernel, rfl, rfl⟩
theorem fl_X11_43 : FLk RX11 43 11 20 1 (.array .int) := ⟨RX11, TX11, 23, tyX11, clX11, by decide, mem_tg (List.mem_of_getElem? (i := 736) (by decide +kernel)) rfl, rfl, by decide +kernel, rfl, rfl⟩
theorem fl_X11_46 : FLk RX11 46 11 21 1 (.array .int) := ⟨RX11, TX11, 23, tyX11, clX11, by decide, mem_tg (List.mem_of_getElem? (i := 737) (by decide +kernel)) rfl, rfl, by decide +kernel, rfl, rfl⟩
theorem fl_X11_49 : FLk RX11 49 11 22 1 (.array .int) := ⟨RX11, TX11, 23, tyX11, clX11, by decide, mem_tg (List.mem_of_getElem? (i := 738) (by decide +kernel)) rfl, rfl, by decide +kernel, rfl, rfl⟩
abbrev rmX0_init : Room := { frames := 1, cells := 1, slots := 24, locals := 20 }
abbrev S_X0_init (av : List Value) (n : Nat) (K : wKd) (I : wIn) (L : wLn) (R : wRf) (post : Post) : Prop := Sp yX0_init cX0_init 1 none rmX0_init av n K I L R post
abbrev C_X0_init (Γ : Gm) : Prop := Cx Γ RX0 cX0_init 1 none rmX0_init "<init>"
abbrev rmX0_playByFists : Room := { frames := 0, cells := 0, slots := 0, locals := 0 }
abbrev S_X0_playByFists (av : List Value) (n : Nat) (K : wKd) (I : wIn) (L : wLn) (R : wRf) (post : Post) : Prop := Sp yX0_playByFists cX0_playByFists 5 (some .int) rmX0_playByFists av n K I L R post
abbrev C_X0_playByFists (Γ : Gm) : Prop := Cx Γ RX0 cX0_playByFists 5 (some .int) rmX0_playByFists "playByFists"
abbrev rmX0_playByDrum : Room := { frames := 0, cells := 0, slots := 0, locals := 0 }
abbrev S_X0_playByDrum (av : List Value) (n : Nat) (K : wKd) (I : wIn) (L : wLn) (R : wRf) (post : Post) : Prop := Sp yX0_playByDrum cX0_playByDrum 3 (some .int) rmX0_playByDrum av n K I L R post
abbrev C_X0_playByDrum (Γ : Gm) : Prop := Cx Γ RX0 cX0_playByDrum 3 (some .int) rmX0_playByDrum "playByDrum"
abbrev rmX0_wornAt : Room := { frames := 0, cells := 0, slots := 0, locals := 0 }
abbrev S_X0_wornAt (av : List Value) (n : Nat) (K : wKd) (I : wIn) (L : wLn) (R : wRf) (post : Post) : Prop := Sp yX0_wornAt cX0_wornAt 4 (some .int) rmX0_wornAt av n K I L R post
abbrev C_X0_wornAt (Γ : Gm) : Prop := Cx Γ RX0 cX0_wornAt 4 (some .int) rmX0_wornAt "wornAt"
abbrev rmX0_copyFrom : Room := { frames := 1, cells := 0, slots := 0, locals := 26 }
abbrev S_X0_copyFrom (av : List Value) (n : Nat) (K : wKd) (I : wIn) (L : wLn) (R : wRf) (post : Post) : Prop := Sp yX0_copyFrom cX0_copyFrom 2 none rmX0_copyFrom av n K I L R post
abbrev C_X0_copyFrom (Γ : Gm) : Prop := Cx Γ RX0 cX0_copyFrom 2 none rmX0_copyFrom "copyFrom"
abbrev rmX1_init : Room := { frames := 1, cells := 2, slots := 200, locals := 20 }
abbrev S_X1_init (av : List Value) (n : Nat) (K : wKd) (I : wIn) (L : wLn) (R : wRf) (post : Post) : Prop := Sp yX1_init cX1_init 1 none rmX1_init av n K I L R post
abbrev C_X1_init (Γ : Gm) : Prop := Cx Γ RX1 cX1_init 1 none rmX1_init "<init>"
abbrev rmX1_renew : Room := { frames := 0, cells := 0, slots := 0, locals := 0 }
abbrev S_X1_renew (av : List Value) (n : Nat) (K : wKd) (I : wIn) (L : wLn) (R : wRf) (post : Post) : Prop := Sp yX1_renew cX1_renew 2 none rmX1_renew av n K I L R post
abbrev C_X1_renew (Γ : Gm) : Prop := Cx Γ RX1 cX1_renew 2 none rmX1_renew "renew"
abbrev rmX1_hasPin : Room := { frames := 0, cells := 0, slots := 0, locals := 0 }
abbrev S_X1_hasPin (av : List Value) (n : Nat) (K : wKd) (I : wIn) (L : wLn) (R : wRf) (post : Post) : Prop := Sp yX1_hasPin cX1_hasPin 4 (some .boolean) rmX1_hasPin av n K I L R post
abbrev C_X1_hasPin (Γ : Gm) : Prop := Cx Γ RX1 cX1_hasPin 4 (some .boolean) rmX1_hasPin "hasPin"
abbrev rmX1_fits : Room := { frames := 0, cells := 0, slots := 0, locals := 0 }
abbrev S_X1_fits (av : List Value) (n : Nat) (K : wKd) (I : wIn) (L : wLn) (R : wRf) (post : Post) : Prop := Sp yX1_fits cX1_fits 2 (some .boolean) rmX1_fits av n K I L R post
abbrev C_X1_fits (Γ : Gm) : Prop := Cx Γ RX1 cX1_fits 2 (some .boolean) rmX1_fits "fits"
abbrev rmX1_pinDown : Room := { frames := 0, cells := 0, slots := 0, locals := 0 }
abbrev S_X1_pinDown (av : List Value) (n : Nat) (K : wKd) (I : wIn) (L : wLn) (R : wRf) (post : Post) : Prop := Sp yX1_pinDown cX1_pinDown 5 none rmX1_pinDown av n K I L R post
abbrev C_X1_pinDown (Γ : Gm) : Prop := Cx Γ RX1 cX1_pinDown 5 none rmX1_pinDown "pinDown"
abbrev rmX1_copyFrom : Room := { frames := 1, cells := 0, slots := 0, locals := 26 }
abbrev S_X1_copyFrom (av : List Value) (n : Nat) (K : wKd) (I : wIn) (L : wLn) (R : wRf) (post : Post) : Prop := Sp yX1_copyFrom cX1_copyFrom 2 none rmX1_copyFrom av n K I L R post
abbrev C_X1_copyFrom (Γ : Gm) : Prop := Cx Γ RX1 cX1_copyFrom 2 none rmX1_copyFrom "copyFrom"
abbrev rmX2_init : Room := { frames := 2, cells := 11, slots := 561, locals := 41 }
abbrev S_X2_init (av : List Value) (n : Nat) (K : wKd) (I : wIn) (L : wLn) (R : wRf) (post : Post) : Prop := Sp yX2_init cX2_init 1 none rmX2_init av n K I L R post
abbrev C_X2_init (Γ : Gm) : Prop := Cx Γ RX2 cX2_init 1 none rmX2_init "<init>"
abbrev rmX2_copyFrom : Room := { frames := 2, cells := 0, slots := 0, locals := 47 }
abbrev S_X2_copyFrom (av : List Value) (n : Nat) (K : wKd) (I : wIn) (L : wLn) (R : wRf) (post : Post) : Prop := Sp yX2_copyFrom cX2_copyFrom 2 none rmX2_copyFrom av n K I L R post
abbrev C_X2_copyFrom (Γ : Gm) : Prop := Cx Γ RX2 cX2_copyFrom 2 none rmX2_copyFrom "copyFrom"
abbrev rmX3_init : Room := { frames := 1, cells := 3, slots := 202, locals := 20 }
abbrev S_X3_init (av : List Value) (n : Nat) (K : wKd) (I : wIn) (L : wLn) (R : wRf) (post : Post) : Prop := Sp yX3_init cX3_init 2 none rmX3_init av n K I L R post
abbrev C_X3_init (Γ : Gm) : Prop := Cx Γ RX3 cX3_init 2 none rmX3_init "<init>"
abbrev rmX3_leastReach : Room := { frames := 4, cells := 0, slots := 0, locals := 90 }
abbrev S_X3_leastReach (av : List Value) (n : Nat) (K : wKd) (I : wIn) (L : wLn) (R : wRf) (post : Post) : Prop := Sp yX3_leastReach cX3_leastReach 4 (some .int) rmX3_leastReach av n K I L R post
abbrev C_X3_leastReach (Γ : Gm) : Prop := Cx Γ RX3 cX3_leastReach 4 (some .int) rmX3_leastReach "leastReach"
abbrev rmX3_handOver : Room := { frames := 3, cells := 0, slots := 0, locals := 66 }
abbrev S_X3_handOver (av : List Value) (n : Nat) (K : wKd) (I : wIn) (L : wLn) (R : wRf) (post : Post) : Prop := Sp yX3_handOver cX3_handOver 5 (some .int) rmX3_handOver av n K I L R post
abbrev C_X3_handOver (Γ : Gm) : Prop := Cx Γ RX3 cX3_handOver 5 (some .int) rmX3_handOver "handOver"
abbrev rmX3_stay : Room := { frames := 3, cells := 0, slots := 0, locals := 66 }
abbrev S_X3_stay (av : List Value) (n : Nat) (K : wKd) (I : wIn) (L : wLn) (R : wRf) (post : Post) : Prop := Sp yX3_stay cX3_stay 5 none rmX3_stay av n K I L R post
abbrev C_X3_stay (Γ : Gm) : Prop := Cx Γ RX3 cX3_stay 5 none rmX3_stay "stay"
abbrev rmX3_reachFor : Room := { frames := 2, cells := 0, slots := 0, locals := 43 }
abbrev S_X3_reachFor (av : List Value) (n : Nat) (K : wKd) (I : wIn) (L : wLn) (R : wRf) (post : Post) : Prop := Sp yX3_reachFor cX3_reachFor 4 (some .int) rmX3_reachFor av n K I L R post
abbrev C_X3_reachFor (Γ : Gm) : Prop := Cx Γ RX3 cX3_reachFor 4 (some .int) rmX3_reachFor "reachFor"
abbrev rmX4_init : Room := { frames := 2, cells := 7, slots := 220, locals := 40 }
abbrev S_X4_init (av : List Value) (n : Nat) (K : wKd) (I : wIn) (L : wLn) (R : wRf) (post : Post) : Prop := Sp yX4_init cX4_init 2 none rmX4_init av n K I L R post
abbrev C_X4_init (Γ : Gm) : Prop := Cx Γ RX4 cX4_init 2 none rmX4_init "<init>"
abbrev rmX4_readAll : Room := { frames := 6, cells := 0, slots := 0, locals := 131 }
abbrev S_X4_readAll (av : List Value) (n : Nat) (K : wKd) (I : wIn) (L : wLn) (R : wRf) (post : Post) : Prop := Sp yX4_readAll cX4_readAll 4 (some .boolean) rmX4_readAll av n K I L R post
abbrev C_X4_readAll (Γ : Gm) : Prop := Cx Γ RX4 cX4_readAll 4 (some .boolean) rmX4_readAll "readAll"
abbrev rmX4_start : Room := { frames := 1, cells := 0, slots := 0, locals := 20 }
abbrev S_X4_start (av : List Value) (n : Nat) (K : wKd) (I : wIn) (L : wLn) (R : wRf) (post : Post) : Prop := Sp yX4_start cX4_start 1 none rmX4_start av n K I L R post
abbrev C_X4_start (Γ : Gm) : Prop := Cx Γ RX4 cX4_start 1 none rmX4_start "start"
abbrev rmX4_openGroup : Room := { frames := 3, cells := 0, slots := 0, locals := 66 }
abbrev S_X4_openGroup (av : List Value) (n : Nat) (K : wKd) (I : wIn) (L : wLn) (R : wRf) (post : Post) : Prop := Sp yX4_openGroup cX4_openGroup 2 none rmX4_openGroup av n K I L R post
abbrev C_X4_openGroup (Γ : Gm) : Prop := Cx Γ RX4 cX4_openGroup 2 none rmX4_openGroup "openGroup"
abbrev rmX4_closeGroup : Room := { frames := 1, cells := 0, slots := 0, locals := 22 }
abbrev S_X4_closeGroup (av : List Value) (n : Nat) (K : wKd) (I : wIn) (L : wLn) (R : wRf) (post : Post) : Prop := Sp yX4_closeGroup cX4_closeGroup 3 none rmX4_closeGroup av n K I L R post
abbrev C_X4_closeGroup (Γ : Gm) : Prop := Cx Γ RX4 cX4_closeGroup 3 none rmX4_closeGroup "closeGroup"
abbrev rmX4_readItem : Room := { frames := 5, cells := 0, slots := 0, locals := 109 }
abbrev S_X4_readItem (av : List Value) (n : Nat) (K : wKd) (I : wIn) (L : wLn) (R : wRf) (post : Post) : Prop := Sp yX4_readItem cX4_readItem 3 none rmX4_readItem av n K I L R post
abbrev C_X4_readItem (Γ : Gm) : Prop := Cx Γ RX4 cX4_readItem 3 none rmX4_readItem "readItem"
abbrev rmX4_readChord : Room := { frames := 4, cells := 0, slots := 0, locals := 88 }
abbrev S_X4_readChord (av : List Value) (n : Nat) (K : wKd) (I : wIn) (L : wLn) (R : wRf) (post : Post) : Prop := Sp yX4_readChord cX4_readChord 2 none rmX4_readChord av n K I L R post
abbrev C_X4_readChord (Γ : Gm) : Prop := Cx Γ RX4 cX4_readChord 2 none rmX4_readChord "readChord"
abbrev rmX4_readBell : Room := { frames := 3, cells := 0, slots := 0, locals := 66 }
abbrev S_X4_readBell (av : List Value) (n : Nat) (K : wKd) (I : wIn) (L : wLn) (R : wRf) (post : Post) : Prop := Sp yX4_readBell cX4_readBell 3 (some .int) rmX4_readBell av n K I L R post
abbrev C_X4_readBell (Γ : Gm) : Prop := Cx Γ RX4 cX4_readBell 3 (some .int) rmX4_readBell "readBell"
abbrev rmX4_readLength : Room := { frames := 3, cells := 0, slots := 0, locals := 66 }
abbrev S_X4_readLength (av : List Value) (n : Nat) (K : wKd) (I : wIn) (L : wLn) (R : wRf) (post : Post) : Prop := Sp yX4_readLength cX4_readLength 2 none rmX4_readLength av n K I L R post
abbrev C_X4_readLength (Γ : Gm) : Prop := Cx Γ RX4 cX4_readLength 2 none rmX4_readLength "readLength"
abbrev rmX4_writeItem : Room := { frames := 1, cells := 0, slots := 0, locals := 22 }
abbrev S_X4_writeItem (av : List Value) (n : Nat) (K : wKd) (I : wIn) (L : wLn) (R : wRf) (post : Post) : Prop := Sp yX4_writeItem cX4_writeItem 5 none rmX4_writeItem av n K I L R post
abbrev C_X4_writeItem (Γ : Gm) : Prop := Cx Γ RX4 cX4_writeItem 5 none rmX4_writeItem "writeItem"
abbrev rmX4_readNumber : Room := { frames := 2, cells := 0, slots := 0, locals := 41 }
abbrev S_X4_readNumber (av : List Value) (n : Nat) (K : wKd) (I : wIn) (L : wLn) (R : wRf) (post : Post) : Prop := Sp yX4_readNumber cX4_readNumber 6 (some .int) rmX4_readNumber av n K I L R post
abbrev C_X4_readNumber (Γ : Gm) : Prop := Cx Γ RX4 cX4_readNumber 6 (some .int) rmX4_readNumber "readNumber"
abbrev rmX4_expect : Room := { frames := 2, cells := 0, slots := 0, locals := 41 }
abbrev S_X4_expect (av : List Value) (n : Nat) (K : wKd) (I : wIn) (L : wLn) (R : wRf) (post : Post) : Prop := Sp yX4_expect cX4_expect 2 none rmX4_expect av n K I L R post
abbrev C_X4_expect (Γ : Gm) : Prop := Cx Γ RX4 cX4_expect 2 none rmX4_expect "expect"
abbrev rmX4_fail : Room := { frames := 0, cells := 0, slots := 0, locals := 0 }
abbrev S_X4_fail (av : List Value) (n : Nat) (K : wKd) (I : wIn) (L : wLn) (R : wRf) (post : Post) : Prop := Sp yX4_fail cX4_fail 3 none rmX4_fail av n K I L R post
abbrev C_X4_fail (Γ : Gm) : Prop := Cx Γ RX4 cX4_fail 3 none rmX4_fail "fail"
abbrev rmX4_nextSign : Room := { frames := 1, cells := 0, slots := 0, locals := 20 }
abbrev S_X4_nextSign (av : List Value) (n : Nat) (K : wKd) (I : wIn) (L : wLn) (R : wRf) (post : Post) : Prop := Sp yX4_nextSign cX4_nextSign 2 (some .int) rmX4_nextSign av n K I L R post
abbrev C_X4_nextSign (Γ : Gm) : Prop := Cx Γ RX4 cX4_nextSign 2 (some .int) rmX4_nextSign "nextSign"
abbrev rmX4_signHere : Room := { frames := 0, cells := 0, slots := 0, locals := 0 }
abbrev S_X4_signHere (av : List Value) (n : Nat) (K : wKd) (I : wIn) (L : wLn) (R : wRf) (post : Post) : Prop := Sp yX4_signHere cX4_signHere 1 (some .int) rmX4_signHere av n K I L R post
abbrev C_X4_signHere (Γ : Gm) : Prop := Cx Γ RX4 cX4_signHere 1 (some .int) rmX4_signHere "signHere"
abbrev rmX4_isDigit : Room := { frames := 0, cells := 0, slots := 0, locals := 0 }
abbrev S_X4_isDigit (av : List Value) (n : Nat) (K : wKd) (I : wIn) (L : wLn) (R : wRf) (post : Post) : Prop := Sp yX4_isDigit cX4_isDigit 1 (some .boolean) rmX4_isDigit av n K I L R post
abbrev C_X4_isDigit (Γ : Gm) : Prop := Cx Γ RX4 cX4_isDigit 1 (some .boolean) rmX4_isDigit "isDigit"
abbrev rmX5_init : Room := { frames := 1, cells := 2, slots := 200, locals := 20 }
abbrev S_X5_init (av : List Value) (n : Nat) (K : wKd) (I : wIn) (L : wLn) (R : wRf) (post : Post) : Prop := Sp yX5_init cX5_init 1 none rmX5_init av n K I L R post
abbrev C_X5_init (Γ : Gm) : Prop := Cx Γ RX5 cX5_init 1 none rmX5_init "<init>"
abbrev rmX5_has : Room := { frames := 0, cells := 0, slots := 0, locals := 0 }
abbrev S_X5_has (av : List Value) (n : Nat) (K : wKd) (I : wIn) (L : wLn) (R : wRf) (post : Post) : Prop := Sp yX5_has cX5_has 2 (some .boolean) rmX5_has av n K I L R post
abbrev C_X5_has (Γ : Gm) : Prop := Cx Γ RX5 cX5_has 2 (some .boolean) rmX5_has "has"
abbrev rmX5_clear : Room := { frames := 0, cells := 0, slots := 0, locals := 0 }
abbrev S_X5_clear (av : List Value) (n : Nat) (K : wKd) (I : wIn) (L : wLn) (R : wRf) (post : Post) : Prop := Sp yX5_clear cX5_clear 1 none rmX5_clear av n K I L R post
abbrev C_X5_clear (Γ : Gm) : Prop := Cx Γ RX5 cX5_clear 1 none rmX5_clear "clear"
abbrev rmX5_addStrike : Room := { frames := 0, cells := 0, slots := 0, locals := 0 }
abbrev S_X5_addStrike (av : List Value) (n : Nat) (K : wKd) (I : wIn) (L : wLn) (R : wRf) (post : Post) : Prop := Sp yX5_addStrike cX5_addStrike 3 none rmX5_addStrike av n K I L R post
abbrev C_X5_addStrike (Γ : Gm) : Prop := Cx Γ RX5 cX5_addStrike 3 none rmX5_addStrike "addStrike"
abbrev rmX5_bellsBetween : Room := { frames := 1, cells := 0, slots := 0, locals := 21 }
abbrev S_X5_bellsBetween (av : List Value) (n : Nat) (K : wKd) (I : wIn) (L : wLn) (R : wRf) (post : Post) : Prop := Sp yX5_bellsBetween cX5_bellsBetween 3 (some .int) rmX5_bellsBetween av n K I L R post
abbrev C_X5_bellsBetween (Γ : Gm) : Prop := Cx Γ RX5 cX5_bellsBetween 3 (some .int) rmX5_bellsBetween "bellsBetween"
abbrev rmX5_copyFrom : Room := { frames := 1, cells := 0, slots := 0, locals := 26 }
abbrev S_X5_copyFrom (av : List Value) (n : Nat) (K : wKd) (I : wIn) (L : wLn) (R : wRf) (post : Post) : Prop := Sp yX5_copyFrom cX5_copyFrom 2 none rmX5_copyFrom av n K I L R post
abbrev C_X5_copyFrom (Γ : Gm) : Prop := Cx Γ RX5 cX5_copyFrom 2 none rmX5_copyFrom "copyFrom"
abbrev rmX6_init : Room := { frames := 1, cells := 3, slots := 10303, locals := 20 }
abbrev S_X6_init (av : List Value) (n : Nat) (K : wKd) (I : wIn) (L : wLn) (R : wRf) (post : Post) : Prop := Sp yX6_init cX6_init 2 none rmX6_init av n K I L R post
abbrev C_X6_init (Γ : Gm) : Prop := Cx Γ RX6 cX6_init 2 none rmX6_init "<init>"
abbrev rmX6_settle : Room := { frames := 5, cells := 0, slots := 0, locals := 121 }
abbrev S_X6_settle (av : List Value) (n : Nat) (K : wKd) (I : wIn) (L : wLn) (R : wRf) (post : Post) : Prop := Sp yX6_settle cX6_settle 5 none rmX6_settle av n K I L R post
abbrev C_X6_settle (Γ : Gm) : Prop := Cx Γ RX6 cX6_settle 5 none rmX6_settle "settle"
abbrev rmX6_spot : Room := { frames := 0, cells := 0, slots := 0, locals := 0 }
abbrev S_X6_spot (av : List Value) (n : Nat) (K : wKd) (I : wIn) (L : wLn) (R : wRf) (post : Post) : Prop := Sp yX6_spot cX6_spot 2 (some .int) rmX6_spot av n K I L R post
abbrev C_X6_spot (Γ : Gm) : Prop := Cx Γ RX6 cX6_spot 2 (some .int) rmX6_spot "spot"
abbrev rmX6_leastRest : Room := { frames := 4, cells := 0, slots := 0, locals := 93 }
abbrev S_X6_leastRest (av : List Value) (n : Nat) (K : wKd) (I : wIn) (L : wLn) (R : wRf) (post : Post) : Prop := Sp yX6_leastRest cX6_leastRest 9 (some .int) rmX6_leastRest av n K I L R post
abbrev C_X6_leastRest (Γ : Gm) : Prop := Cx Γ RX6 cX6_leastRest 9 (some .int) rmX6_leastRest "leastRest"
abbrev rmX6_costBy : Room := { frames := 3, cells := 0, slots := 0, locals := 67 }
abbrev S_X6_costBy (av : List Value) (n : Nat) (K : wKd) (I : wIn) (L : wLn) (R : wRf) (post : Post) : Prop := Sp yX6_costBy cX6_costBy 7 (some .int) rmX6_costBy av n K I L R post
abbrev C_X6_costBy (Γ : Gm) : Prop := Cx Γ RX6 cX6_costBy 7 (some .int) rmX6_costBy "costBy"
abbrev rmX6_moveTo : Room := { frames := 2, cells := 0, slots := 0, locals := 43 }
abbrev S_X6_moveTo (av : List Value) (n : Nat) (K : wKd) (I : wIn) (L : wLn) (R : wRf) (post : Post) : Prop := Sp yX6_moveTo cX6_moveTo 5 (some .int) rmX6_moveTo av n K I L R post
abbrev C_X6_moveTo (Γ : Gm) : Prop := Cx Γ RX6 cX6_moveTo 5 (some .int) rmX6_moveTo "moveTo"
abbrev rmX6_walk : Room := { frames := 4, cells := 0, slots := 0, locals := 93 }
abbrev S_X6_walk (av : List Value) (n : Nat) (K : wKd) (I : wIn) (L : wLn) (R : wRf) (post : Post) : Prop := Sp yX6_walk cX6_walk 5 none rmX6_walk av n K I L R post
abbrev C_X6_walk (Γ : Gm) : Prop := Cx Γ RX6 cX6_walk 5 none rmX6_walk "walk"
abbrev rmX7_init : Room := { frames := 1, cells := 1, slots := 1000, locals := 20 }
abbrev S_X7_init (av : List Value) (n : Nat) (K : wKd) (I : wIn) (L : wLn) (R : wRf) (post : Post) : Prop := Sp yX7_init cX7_init 1 none rmX7_init av n K I L R post
abbrev C_X7_init (Γ : Gm) : Prop := Cx Γ RX7 cX7_init 1 none rmX7_init "<init>"
abbrev rmX7_hasRoom : Room := { frames := 0, cells := 0, slots := 0, locals := 0 }
abbrev S_X7_hasRoom (av : List Value) (n : Nat) (K : wKd) (I : wIn) (L : wLn) (R : wRf) (post : Post) : Prop := Sp yX7_hasRoom cX7_hasRoom 1 (some .boolean) rmX7_hasRoom av n K I L R post
abbrev C_X7_hasRoom (Γ : Gm) : Prop := Cx Γ RX7 cX7_hasRoom 1 (some .boolean) rmX7_hasRoom "hasRoom"
abbrev rmX7_addNumber : Room := { frames := 0, cells := 0, slots := 0, locals := 0 }
abbrev S_X7_addNumber (av : List Value) (n : Nat) (K : wKd) (I : wIn) (L : wLn) (R : wRf) (post : Post) : Prop := Sp yX7_addNumber cX7_addNumber 3 none rmX7_addNumber av n K I L R post
abbrev C_X7_addNumber (Γ : Gm) : Prop := Cx Γ RX7 cX7_addNumber 3 none rmX7_addNumber "addNumber"
abbrev rmX8_init : Room := { frames := 1, cells := 2, slots := 124, locals := 20 }
abbrev S_X8_init (av : List Value) (n : Nat) (K : wKd) (I : wIn) (L : wLn) (R : wRf) (post : Post) : Prop := Sp yX8_init cX8_init 2 none rmX8_init av n K I L R post
abbrev C_X8_init (Γ : Gm) : Prop := Cx Γ RX8 cX8_init 2 none rmX8_init "<init>"
abbrev rmX8_soundLength : Room := { frames := 1, cells := 0, slots := 0, locals := 21 }
abbrev S_X8_soundLength (av : List Value) (n : Nat) (K : wKd) (I : wIn) (L : wLn) (R : wRf) (post : Post) : Prop := Sp yX8_soundLength cX8_soundLength 5 (some .int) rmX8_soundLength av n K I L R post
abbrev C_X8_soundLength (Γ : Gm) : Prop := Cx Γ RX8 cX8_soundLength 5 (some .int) rmX8_soundLength "soundLength"
abbrev rmX8_quarrelTicks : Room := { frames := 3, cells := 0, slots := 0, locals := 67 }
abbrev S_X8_quarrelTicks (av : List Value) (n : Nat) (K : wKd) (I : wIn) (L : wLn) (R : wRf) (post : Post) : Prop := Sp yX8_quarrelTicks cX8_quarrelTicks 5 (some .int) rmX8_quarrelTicks av n K I L R post
abbrev C_X8_quarrelTicks (Γ : Gm) : Prop := Cx Γ RX8 cX8_quarrelTicks 5 (some .int) rmX8_quarrelTicks "quarrelTicks"
abbrev rmX8_canQuarrel : Room := { frames := 2, cells := 0, slots := 0, locals := 43 }
abbrev S_X8_canQuarrel (av : List Value) (n : Nat) (K : wKd) (I : wIn) (L : wLn) (R : wRf) (post : Post) : Prop := Sp yX8_canQuarrel cX8_canQuarrel 5 (some .boolean) rmX8_canQuarrel av n K I L R post
abbrev C_X8_canQuarrel (Γ : Gm) : Prop := Cx Γ RX8 cX8_canQuarrel 5 (some .boolean) rmX8_canQuarrel "canQuarrel"
abbrev rmX8_ticksTogether : Room := { frames := 1, cells := 0, slots := 0, locals := 21 }
abbrev S_X8_ticksTogether (av : List Value) (n : Nat) (K : wKd) (I : wIn) (L : wLn) (R : wRf) (post : Post) : Prop := Sp yX8_ticksTogether cX8_ticksTogether 6 (some .int) rmX8_ticksTogether av n K I L R post
abbrev C_X8_ticksTogether (Γ : Gm) : Prop := Cx Γ RX8 cX8_ticksTogether 6 (some .int) rmX8_ticksTogether "ticksTogether"
abbrev rmX8_copyFrom : Room := { frames := 1, cells := 0, slots := 0, locals := 26 }
abbrev S_X8_copyFrom (av : List Value) (n : Nat) (K : wKd) (I : wIn) (L : wLn) (R : wRf) (post : Post) : Prop := Sp yX8_copyFrom cX8_copyFrom 2 none rmX8_copyFrom av n K I L R post
abbrev C_X8_copyFrom (Γ : Gm) : Prop := Cx Γ RX8 cX8_copyFrom 2 none rmX8_copyFrom "copyFrom"
abbrev rmX9_init : Room := { frames := 1, cells := 1, slots := 2063, locals := 20 }
abbrev S_X9_init (av : List Value) (n : Nat) (K : wKd) (I : wIn) (L : wLn) (R : wRf) (post : Post) : Prop := Sp yX9_init cX9_init 1 none rmX9_init av n K I L R post
abbrev C_X9_init (Γ : Gm) : Prop := Cx Γ RX9 cX9_init 1 none rmX9_init "<init>"
abbrev rmX9_find : Room := { frames := 0, cells := 0, slots := 0, locals := 0 }
abbrev S_X9_find (av : List Value) (n : Nat) (K : wKd) (I : wIn) (L : wLn) (R : wRf) (post : Post) : Prop := Sp yX9_find cX9_find 6 none rmX9_find av n K I L R post
abbrev C_X9_find (Γ : Gm) : Prop := Cx Γ RX9 cX9_find 6 none rmX9_find "find"
abbrev rmX10_init : Room := { frames := 3, cells := 33, slots := 14390, locals := 61 }
abbrev S_X10_init (av : List Value) (n : Nat) (K : wKd) (I : wIn) (L : wLn) (R : wRf) (post : Post) : Prop := Sp yX10_init cX10_init 1 none rmX10_init av n K I L R post
abbrev C_X10_init (Γ : Gm) : Prop := Cx Γ RX10 cX10_init 1 none rmX10_init "<init>"
abbrev rmX10_feed : Room := { frames := 1, cells := 0, slots := 0, locals := 22 }
abbrev S_X10_feed (av : List Value) (n : Nat) (K : wKd) (I : wIn) (L : wLn) (R : wRf) (post : Post) : Prop := Sp yX10_feed cX10_feed 6 (some .int) rmX10_feed av n K I L R post
abbrev C_X10_feed (Γ : Gm) : Prop := Cx Γ RX10 cX10_feed 6 (some .int) rmX10_feed "feed"
abbrev rmX10_end : Room := { frames := 0, cells := 0, slots := 0, locals := 0 }
abbrev S_X10_end (av : List Value) (n : Nat) (K : wKd) (I : wIn) (L : wLn) (R : wRf) (post : Post) : Prop := Sp yX10_end cX10_end 2 (some .boolean) rmX10_end av n K I L R post
abbrev C_X10_end (Γ : Gm) : Prop := Cx Γ RX10 cX10_end 2 (some .boolean) rmX10_end "end"
abbrev rmX10_score : Room := { frames := 7, cells := 0, slots := 0, locals := 154 }
abbrev S_X10_score (av : List Value) (n : Nat) (K : wKd) (I : wIn) (L : wLn) (R : wRf) (post : Post) : Prop := Sp yX10_score cX10_score 2 (some .int) rmX10_score av n K I L R post
abbrev C_X10_score (Γ : Gm) : Prop := Cx Γ RX10 cX10_score 2 (some .int) rmX10_score "score"
abbrev rmX10_fault : Room := { frames := 0, cells := 0, slots := 0, locals := 0 }
abbrev S_X10_fault (av : List Value) (n : Nat) (K : wKd) (I : wIn) (L : wLn) (R : wRf) (post : Post) : Prop := Sp yX10_fault cX10_fault 2 (some .int) rmX10_fault av n K I L R post
abbrev C_X10_fault (Γ : Gm) : Prop := Cx Γ RX10 cX10_fault 2 (some .int) rmX10_fault "fault"
abbrev rmX10_strike : Room := { frames := 1, cells := 0, slots := 0, locals := 21 }
abbrev S_X10_strike (av : List Value) (n : Nat) (K : wKd) (I : wIn) (L : wLn) (R : wRf) (post : Post) : Prop := Sp yX10_strike cX10_strike 3 (some .int) rmX10_strike av n K I L R post
abbrev C_X10_strike (Γ : Gm) : Prop := Cx Γ RX10 cX10_strike 3 (some .int) rmX10_strike "strike"
abbrev rmX10_count : Room := { frames := 7, cells := 0, slots := 0, locals := 165 }
abbrev S_X10_count (av : List Value) (n : Nat) (K : wKd) (I : wIn) (L : wLn) (R : wRf) (post : Post) : Prop := Sp yX10_count cX10_count 2 (some .int) rmX10_count av n K I L R post
abbrev C_X10_count (Γ : Gm) : Prop := Cx Γ RX10 cX10_count 2 (some .int) rmX10_count "count"
abbrev rmX10_fists : Room := { frames := 0, cells := 0, slots := 0, locals := 0 }
abbrev S_X10_fists (av : List Value) (n : Nat) (K : wKd) (I : wIn) (L : wLn) (R : wRf) (post : Post) : Prop := Sp yX10_fists cX10_fists 3 (some .boolean) rmX10_fists av n K I L R post
abbrev C_X10_fists (Γ : Gm) : Prop := Cx Γ RX10 cX10_fists 3 (some .boolean) rmX10_fists "fists"
abbrev rmX10_cost : Room := { frames := 7, cells := 0, slots := 0, locals := 165 }
abbrev S_X10_cost (av : List Value) (n : Nat) (K : wKd) (I : wIn) (L : wLn) (R : wRf) (post : Post) : Prop := Sp yX10_cost cX10_cost 1 (some .int) rmX10_cost av n K I L R post
abbrev C_X10_cost (Γ : Gm) : Prop := Cx Γ RX10 cX10_cost 1 (some .int) rmX10_cost "cost"
abbrev rmX10_need : Room := { frames := 5, cells := 0, slots := 0, locals := 113 }
abbrev S_X10_need (av : List Value) (n : Nat) (K : wKd) (I : wIn) (L : wLn) (R : wRf) (post : Post) : Prop := Sp yX10_need cX10_need 1 (some .int) rmX10_need av n K I L R post
abbrev C_X10_need (Γ : Gm) : Prop := Cx Γ RX10 cX10_need 1 (some .int) rmX10_need "need"
abbrev rmX10_by : Room := { frames := 7, cells := 0, slots := 0, locals := 165 }
abbrev S_X10_by (av : List Value) (n : Nat) (K : wKd) (I : wIn) (L : wLn) (R : wRf) (post : Post) : Prop := Sp yX10_by cX10_by 2 (some .int) rmX10_by av n K I L R post
abbrev C_X10_by (Γ : Gm) : Prop := Cx Γ RX10 cX10_by 2 (some .int) rmX10_by "by"
abbrev rmX10_way : Room := { frames := 7, cells := 0, slots := 0, locals := 165 }
abbrev S_X10_way (av : List Value) (n : Nat) (K : wKd) (I : wIn) (L : wLn) (R : wRf) (post : Post) : Prop := Sp yX10_way cX10_way 2 (some .int) rmX10_way av n K I L R post
abbrev C_X10_way (Γ : Gm) : Prop := Cx Γ RX10 cX10_way 2 (some .int) rmX10_way "way"
abbrev rmX10_tail : Room := { frames := 1, cells := 0, slots := 0, locals := 20 }
abbrev S_X10_tail (av : List Value) (n : Nat) (K : wKd) (I : wIn) (L : wLn) (R : wRf) (post : Post) : Prop := Sp yX10_tail cX10_tail 4 (some .int) rmX10_tail av n K I L R post
abbrev C_X10_tail (Γ : Gm) : Prop := Cx Γ RX10 cX10_tail 4 (some .int) rmX10_tail "tail"
abbrev rmX10_quarrel : Room := { frames := 0, cells := 0, slots := 0, locals := 0 }
abbrev S_X10_quarrel (av : List Value) (n : Nat) (K : wKd) (I : wIn) (L : wLn) (R : wRf) (post : Post) : Prop := Sp yX10_quarrel cX10_quarrel 3 (some .int) rmX10_quarrel av n K I L R post
abbrev C_X10_quarrel (Γ : Gm) : Prop := Cx Γ RX10 cX10_quarrel 3 (some .int) rmX10_quarrel "quarrel"
abbrev rmX10_quarrels : Room := { frames := 4, cells := 0, slots := 0, locals := 91 }
abbrev S_X10_quarrels (av : List Value) (n : Nat) (K : wKd) (I : wIn) (L : wLn) (R : wRf) (post : Post) : Prop := Sp yX10_quarrels cX10_quarrels 1 (some .int) rmX10_quarrels av n K I L R post
abbrev C_X10_quarrels (Γ : Gm) : Prop := Cx Γ RX10 cX10_quarrels 1 (some .int) rmX10_quarrels "quarrels"
abbrev rmX10_sounds : Room := { frames := 2, cells := 0, slots := 0, locals := 45 }
abbrev S_X10_sounds (av : List Value) (n : Nat) (K : wKd) (I : wIn) (L : wLn) (R : wRf) (post : Post) : Prop := Sp yX10_sounds cX10_sounds 2 (some .int) rmX10_sounds av n K I L R post
abbrev C_X10_sounds (Γ : Gm) : Prop := Cx Γ RX10 cX10_sounds 2 (some .int) rmX10_sounds "sounds"
abbrev rmX10_drum : Room := { frames := 1, cells := 0, slots := 0, locals := 21 }
abbrev S_X10_drum (av : List Value) (n : Nat) (K : wKd) (I : wIn) (L : wLn) (R : wRf) (post : Post) : Prop := Sp yX10_drum cX10_drum 2 (some .boolean) rmX10_drum av n K I L R post
abbrev C_X10_drum (Γ : Gm) : Prop := Cx Γ RX10 cX10_drum 2 (some .boolean) rmX10_drum "drum"
abbrev rmX10_change : Room := { frames := 1, cells := 0, slots := 0, locals := 25 }
abbrev S_X10_change (av : List Value) (n : Nat) (K : wKd) (I : wIn) (L : wLn) (R : wRf) (post : Post) : Prop := Sp yX10_change cX10_change 1 (some .int) rmX10_change av n K I L R post
abbrev C_X10_change (Γ : Gm) : Prop := Cx Γ RX10 cX10_change 1 (some .int) rmX10_change "change"
abbrev rmX10_turn : Room := { frames := 0, cells := 0, slots := 0, locals := 0 }
abbrev S_X10_turn (av : List Value) (n : Nat) (K : wKd) (I : wIn) (L : wLn) (R : wRf) (post : Post) : Prop := Sp yX10_turn cX10_turn 1 (some .int) rmX10_turn av n K I L R post
abbrev C_X10_turn (Γ : Gm) : Prop := Cx Γ RX10 cX10_turn 1 (some .int) rmX10_turn "turn"
abbrev rmX10_pin : Room := { frames := 1, cells := 0, slots := 0, locals := 23 }
abbrev S_X10_pin (av : List Value) (n : Nat) (K : wKd) (I : wIn) (L : wLn) (R : wRf) (post : Post) : Prop := Sp yX10_pin cX10_pin 3 (some .int) rmX10_pin av n K I L R post
abbrev C_X10_pin (Γ : Gm) : Prop := Cx Γ RX10 cX10_pin 3 (some .int) rmX10_pin "pin"
abbrev rmX10_pins : Room := { frames := 0, cells := 0, slots := 0, locals := 0 }
abbrev S_X10_pins (av : List Value) (n : Nat) (K : wKd) (I : wIn) (L : wLn) (R : wRf) (post : Post) : Prop := Sp yX10_pins cX10_pins 1 (some .int) rmX10_pins av n K I L R post
abbrev C_X10_pins (Γ : Gm) : Prop := Cx Γ RX10 cX10_pins 1 (some .int) rmX10_pins "pins"
abbrev rmX10_play : Room := { frames := 7, cells := 0, slots := 0, locals := 165 }
abbrev S_X10_play (av : List Value) (n : Nat) (K : wKd) (I : wIn) (L : wLn) (R : wRf) (post : Post) : Prop := Sp yX10_play cX10_play 2 (some .int) rmX10_play av n K I L R post
abbrev C_X10_play (Γ : Gm) : Prop := Cx Γ RX10 cX10_play 2 (some .int) rmX10_play "play"
abbrev rmX10_strikes : Room := { frames := 1, cells := 0, slots := 0, locals := 20 }
abbrev S_X10_strikes (av : List Value) (n : Nat) (K : wKd) (I : wIn) (L : wLn) (R : wRf) (post : Post) : Prop := Sp yX10_strikes cX10_strikes 2 (some .long) rmX10_strikes av n K I L R post
abbrev C_X10_strikes (Γ : Gm) : Prop := Cx Γ RX10 cX10_strikes 2 (some .long) rmX10_strikes "strikes"
abbrev rmX10_mend : Room := { frames := 1, cells := 0, slots := 0, locals := 20 }
abbrev S_X10_mend (av : List Value) (n : Nat) (K : wKd) (I : wIn) (L : wLn) (R : wRf) (post : Post) : Prop := Sp yX10_mend cX10_mend 4 (some .long) rmX10_mend av n K I L R post
abbrev C_X10_mend (Γ : Gm) : Prop := Cx Γ RX10 cX10_mend 4 (some .long) rmX10_mend "mend"
abbrev rmX10_worn : Room := { frames := 1, cells := 0, slots := 0, locals := 23 }
abbrev S_X10_worn (av : List Value) (n : Nat) (K : wKd) (I : wIn) (L : wLn) (R : wRf) (post : Post) : Prop := Sp yX10_worn cX10_worn 2 (some .int) rmX10_worn av n K I L R post
abbrev C_X10_worn (Γ : Gm) : Prop := Cx Γ RX10 cX10_worn 2 (some .int) rmX10_worn "worn"
abbrev rmX10_image : Room := { frames := 3, cells := 12, slots := 569, locals := 68 }
abbrev S_X10_image (av : List Value) (n : Nat) (K : wKd) (I : wIn) (L : wLn) (R : wRf) (post : Post) : Prop := Sp yX10_image cX10_image 3 (some .boolean) rmX10_image av n K I L R post
abbrev C_X10_image (Γ : Gm) : Prop := Cx Γ RX10 cX10_image 3 (some .boolean) rmX10_image "image"
abbrev rmX10_back : Room := { frames := 3, cells := 0, slots := 0, locals := 68 }
abbrev S_X10_back (av : List Value) (n : Nat) (K : wKd) (I : wIn) (L : wLn) (R : wRf) (post : Post) : Prop := Sp yX10_back cX10_back 3 (some .boolean) rmX10_back av n K I L R post
abbrev C_X10_back (Γ : Gm) : Prop := Cx Γ RX10 cX10_back 3 (some .boolean) rmX10_back "back"
abbrev rmX10_isBell : Room := { frames := 0, cells := 0, slots := 0, locals := 0 }
abbrev S_X10_isBell (av : List Value) (n : Nat) (K : wKd) (I : wIn) (L : wLn) (R : wRf) (post : Post) : Prop := Sp yX10_isBell cX10_isBell 1 (some .boolean) rmX10_isBell av n K I L R post
abbrev C_X10_isBell (Γ : Gm) : Prop := Cx Γ RX10 cX10_isBell 1 (some .boolean) rmX10_isBell "isBell"
abbrev rmX10_theSetting : Room := { frames := 6, cells := 0, slots := 0, locals := 145 }
abbrev S_X10_theSetting (av : List Value) (n : Nat) (K : wKd) (I : wIn) (L : wLn) (R : wRf) (post : Post) : Prop := Sp yX10_theSetting cX10_theSetting 1 (some (.object "CarillonDesk$Setting")) rmX10_theSetting av n K I L R post
abbrev C_X10_theSetting (Γ : Gm) : Prop := Cx Γ RX10 cX10_theSetting 1 (some (.object "CarillonDesk$Setting")) rmX10_theSetting "theSetting"
abbrev rmX11_init : Room := { frames := 1, cells := 13, slots := 1039778, locals := 20 }
abbrev S_X11_init (av : List Value) (n : Nat) (K : wKd) (I : wIn) (L : wLn) (R : wRf) (post : Post) : Prop := Sp yX11_init cX11_init 2 none rmX11_init av n K I L R post
abbrev C_X11_init (Γ : Gm) : Prop := Cx Γ RX11 cX11_init 2 none rmX11_init "<init>"
abbrev rmX11_image : Room := { frames := 0, cells := 0, slots := 0, locals := 0 }
abbrev S_X11_image (av : List Value) (n : Nat) (K : wKd) (I : wIn) (L : wLn) (R : wRf) (post : Post) : Prop := Sp yX11_image cX11_image 3 (some .boolean) rmX11_image av n K I L R post
abbrev C_X11_image (Γ : Gm) : Prop := Cx Γ RX11 cX11_image 3 (some .boolean) rmX11_image "image"
abbrev rmX11_back : Room := { frames := 0, cells := 0, slots := 0, locals := 0 }
abbrev S_X11_back (av : List Value) (n : Nat) (K : wKd) (I : wIn) (L : wLn) (R : wRf) (post : Post) : Prop := Sp yX11_back cX11_back 3 (some .boolean) rmX11_back av n K I L R post
abbrev C_X11_back (Γ : Gm) : Prop := Cx Γ RX11 cX11_back 3 (some .boolean) rmX11_back "back"
abbrev rmX11_feed : Room := { frames := 0, cells := 0, slots := 0, locals := 0 }
abbrev S_X11_feed (av : List Value) (n : Nat) (K : wKd) (I : wIn) (L : wLn) (R : wRf) (post : Post) : Prop := Sp yX11_feed cX11_feed 8 (some .int) rmX11_feed av n K I L R post
abbrev C_X11_feed (Γ : Gm) : Prop := Cx Γ RX11 cX11_feed 8 (some .int) rmX11_feed "feed"
abbrev rmX11_end : Room := { frames := 0, cells := 0, slots := 0, locals := 0 }
abbrev S_X11_end (av : List Value) (n : Nat) (K : wKd) (I : wIn) (L : wLn) (R : wRf) (post : Post) : Prop := Sp yX11_end cX11_end 2 (some .boolean) rmX11_end av n K I L R post
abbrev C_X11_end (Γ : Gm) : Prop := Cx Γ RX11 cX11_end 2 (some .boolean) rmX11_end "end"
abbrev rmX11_fail : Room := { frames := 0, cells := 0, slots := 0, locals := 0 }
abbrev S_X11_fail (av : List Value) (n : Nat) (K : wKd) (I : wIn) (L : wLn) (R : wRf) (post : Post) : Prop := Sp yX11_fail cX11_fail 3 none rmX11_fail av n K I L R post
abbrev C_X11_fail (Γ : Gm) : Prop := Cx Γ RX11 cX11_fail 3 none rmX11_fail "fail"
abbrev rmX11_next : Room := { frames := 0, cells := 0, slots := 0, locals := 0 }
abbrev S_X11_next (av : List Value) (n : Nat) (K : wKd) (I : wIn) (L : wLn) (R : wRf) (post : Post) : Prop := Sp yX11_next cX11_next 1 (some .int) rmX11_next av n K I L R post
abbrev C_X11_next (Γ : Gm) : Prop := Cx Γ RX11 cX11_next 1 (some .int) rmX11_next "next"
abbrev rmX11_sign : Room := { frames := 1, cells := 0, slots := 0, locals := 22 }
abbrev S_X11_sign (av : List Value) (n : Nat) (K : wKd) (I : wIn) (L : wLn) (R : wRf) (post : Post) : Prop := Sp yX11_sign cX11_sign 2 none rmX11_sign av n K I L R post
abbrev C_X11_sign (Γ : Gm) : Prop := Cx Γ RX11 cX11_sign 2 none rmX11_sign "sign"
abbrev rmX11_isDigit : Room := { frames := 0, cells := 0, slots := 0, locals := 0 }
abbrev S_X11_isDigit (av : List Value) (n : Nat) (K : wKd) (I : wIn) (L : wLn) (R : wRf) (post : Post) : Prop := Sp yX11_isDigit cX11_isDigit 1 (some .boolean) rmX11_isDigit av n K I L R post
abbrev C_X11_isDigit (Γ : Gm) : Prop := Cx Γ RX11 cX11_isDigit 1 (some .boolean) rmX11_isDigit "isDigit"
abbrev rmX11_number : Room := { frames := 1, cells := 0, slots := 0, locals := 22 }
abbrev S_X11_number (av : List Value) (n : Nat) (K : wKd) (I : wIn) (L : wLn) (R : wRf) (post : Post) : Prop := Sp yX11_number cX11_number 4 (some .int) rmX11_number av n K I L R post
abbrev C_X11_number (Γ : Gm) : Prop := Cx Γ RX11 cX11_number 4 (some .int) rmX11_number "number"
abbrev rmX11_length : Room := { frames := 2, cells := 0, slots := 0, locals := 45 }
abbrev S_X11_length (av : List Value) (n : Nat) (K : wKd) (I : wIn) (L : wLn) (R : wRf) (post : Post) : Prop := Sp yX11_length cX11_length 4 (some .int) rmX11_length av n K I L R post
abbrev C_X11_length (Γ : Gm) : Prop := Cx Γ RX11 cX11_length 4 (some .int) rmX11_length "length"
abbrev rmX11_strikesHere : Room := { frames := 1, cells := 0, slots := 0, locals := 22 }
abbrev S_X11_strikesHere (av : List Value) (n : Nat) (K : wKd) (I : wIn) (L : wLn) (R : wRf) (post : Post) : Prop := Sp yX11_strikesHere cX11_strikesHere 5 none rmX11_strikesHere av n K I L R post
abbrev C_X11_strikesHere (Γ : Gm) : Prop := Cx Γ RX11 cX11_strikesHere 5 none rmX11_strikesHere "strikesHere"
abbrev rmX11_item : Room := { frames := 3, cells := 0, slots := 0, locals := 68 }
abbrev S_X11_item (av : List Value) (n : Nat) (K : wKd) (I : wIn) (L : wLn) (R : wRf) (post : Post) : Prop := Sp yX11_item cX11_item 6 none rmX11_item av n K I L R post
abbrev C_X11_item (Γ : Gm) : Prop := Cx Γ RX11 cX11_item 6 none rmX11_item "item"
abbrev rmX11_group : Room := { frames := 2, cells := 0, slots := 0, locals := 45 }
abbrev S_X11_group (av : List Value) (n : Nat) (K : wKd) (I : wIn) (L : wLn) (R : wRf) (post : Post) : Prop := Sp yX11_group cX11_group 2 none rmX11_group av n K I L R post
abbrev C_X11_group (Γ : Gm) : Prop := Cx Γ RX11 cX11_group 2 none rmX11_group "group"
abbrev rmX11_ends : Room := { frames := 1, cells := 0, slots := 0, locals := 22 }
abbrev S_X11_ends (av : List Value) (n : Nat) (K : wKd) (I : wIn) (L : wLn) (R : wRf) (post : Post) : Prop := Sp yX11_ends cX11_ends 1 none rmX11_ends av n K I L R post
abbrev C_X11_ends (Γ : Gm) : Prop := Cx Γ RX11 cX11_ends 1 none rmX11_ends "ends"
abbrev rmX11_score : Room := { frames := 4, cells := 0, slots := 0, locals := 93 }
abbrev S_X11_score (av : List Value) (n : Nat) (K : wKd) (I : wIn) (L : wLn) (R : wRf) (post : Post) : Prop := Sp yX11_score cX11_score 2 (some .int) rmX11_score av n K I L R post
abbrev C_X11_score (Γ : Gm) : Prop := Cx Γ RX11 cX11_score 2 (some .int) rmX11_score "score"
abbrev rmX11_fault : Room := { frames := 0, cells := 0, slots := 0, locals := 0 }
abbrev S_X11_fault (av : List Value) (n : Nat) (K : wKd) (I : wIn) (L : wLn) (R : wRf) (post : Post) : Prop := Sp yX11_fault cX11_fault 2 (some .int) rmX11_fault av n K I L R post
abbrev C_X11_fault (Γ : Gm) : Prop := Cx Γ RX11 cX11_fault 2 (some .int) rmX11_fault "fault"
abbrev rmX11_strike : Room := { frames := 0, cells := 0, slots := 0, locals := 0 }
abbrev S_X11_strike (av : List Value) (n : Nat) (K : wKd) (I : wIn) (L : wLn) (R : wRf) (post : Post) : Prop := Sp yX11_strike cX11_strike 3 (some .int) rmX11_strike av n K I L R post
abbrev C_X11_strike (Γ : Gm) : Prop := Cx Γ RX11 cX11_strike 3 (some .int) rmX11_strike "strike"
abbrev rmX11_place : Room := { frames := 0, cells := 0, slots := 0, locals := 0 }
abbrev S_X11_place (av : List Value) (n : Nat) (K : wKd) (I : wIn) (L : wLn) (R : wRf) (post : Post) : Prop := Sp yX11_place cX11_place 4 (some .int) rmX11_place av n K I L R post
abbrev C_X11_place (Γ : Gm) : Prop := Cx Γ RX11 cX11_place 4 (some .int) rmX11_place "place"
abbrev rmX11_moves : Room := { frames := 0, cells := 0, slots := 0, locals := 0 }
abbrev S_X11_moves (av : List Value) (n : Nat) (K : wKd) (I : wIn) (L : wLn) (R : wRf) (post : Post) : Prop := Sp yX11_moves cX11_moves 6 (some .int) rmX11_moves av n K I L R post
abbrev C_X11_moves (Γ : Gm) : Prop := Cx Γ RX11 cX11_moves 6 (some .int) rmX11_moves "moves"
abbrev rmX11_isCrossed : Room := { frames := 0, cells := 0, slots := 0, locals := 0 }
abbrev S_X11_isCrossed (av : List Value) (n : Nat) (K : wKd) (I : wIn) (L : wLn) (R : wRf) (post : Post) : Prop := Sp yX11_isCrossed cX11_isCrossed 3 (some .boolean) rmX11_isCrossed av n K I L R post
abbrev C_X11_isCrossed (Γ : Gm) : Prop := Cx Γ RX11 cX11_isCrossed 3 (some .boolean) rmX11_isCrossed "isCrossed"
abbrev rmX11_costOf : Room := { frames := 1, cells := 0, slots := 0, locals := 25 }
abbrev S_X11_costOf (av : List Value) (n : Nat) (K : wKd) (I : wIn) (L : wLn) (R : wRf) (post : Post) : Prop := Sp yX11_costOf cX11_costOf 7 (some .int) rmX11_costOf av n K I L R post
abbrev C_X11_costOf (Γ : Gm) : Prop := Cx Γ RX11 cX11_costOf 7 (some .int) rmX11_costOf "costOf"
abbrev rmX11_behind : Room := { frames := 1, cells := 0, slots := 0, locals := 23 }
abbrev S_X11_behind (av : List Value) (n : Nat) (K : wKd) (I : wIn) (L : wLn) (R : wRf) (post : Post) : Prop := Sp yX11_behind cX11_behind 5 (some .int) rmX11_behind av n K I L R post
abbrev C_X11_behind (Γ : Gm) : Prop := Cx Γ RX11 cX11_behind 5 (some .int) rmX11_behind "behind"
abbrev rmX11_weighs : Room := { frames := 2, cells := 0, slots := 0, locals := 51 }
abbrev S_X11_weighs (av : List Value) (n : Nat) (K : wKd) (I : wIn) (L : wLn) (R : wRf) (post : Post) : Prop := Sp yX11_weighs cX11_weighs 10 (some .int) rmX11_weighs av n K I L R post
abbrev C_X11_weighs (Γ : Gm) : Prop := Cx Γ RX11 cX11_weighs 10 (some .int) rmX11_weighs "weighs"
abbrev rmX11_sets : Room := { frames := 3, cells := 0, slots := 0, locals := 80 }
abbrev S_X11_sets (av : List Value) (n : Nat) (K : wKd) (I : wIn) (L : wLn) (R : wRf) (post : Post) : Prop := Sp yX11_sets cX11_sets 6 (some .int) rmX11_sets av n K I L R post
abbrev C_X11_sets (Γ : Gm) : Prop := Cx Γ RX11 cX11_sets 6 (some .int) rmX11_sets "sets"
abbrev rmX11_fists : Room := { frames := 0, cells := 0, slots := 0, locals := 0 }
abbrev S_X11_fists (av : List Value) (n : Nat) (K : wKd) (I : wIn) (L : wLn) (R : wRf) (post : Post) : Prop := Sp yX11_fists cX11_fists 3 (some .boolean) rmX11_fists av n K I L R post
abbrev C_X11_fists (Γ : Gm) : Prop := Cx Γ RX11 cX11_fists 3 (some .boolean) rmX11_fists "fists"
abbrev rmX11_cost : Room := { frames := 4, cells := 0, slots := 0, locals := 105 }
abbrev S_X11_cost (av : List Value) (n : Nat) (K : wKd) (I : wIn) (L : wLn) (R : wRf) (post : Post) : Prop := Sp yX11_cost cX11_cost 1 (some .int) rmX11_cost av n K I L R post
abbrev C_X11_cost (Γ : Gm) : Prop := Cx Γ RX11 cX11_cost 1 (some .int) rmX11_cost "cost"
abbrev rmX11_need : Room := { frames := 3, cells := 0, slots := 0, locals := 80 }
abbrev S_X11_need (av : List Value) (n : Nat) (K : wKd) (I : wIn) (L : wLn) (R : wRf) (post : Post) : Prop := Sp yX11_need cX11_need 2 (some .int) rmX11_need av n K I L R post
abbrev C_X11_need (Γ : Gm) : Prop := Cx Γ RX11 cX11_need 2 (some .int) rmX11_need "need"
abbrev rmX11_by : Room := { frames := 4, cells := 0, slots := 0, locals := 105 }
abbrev S_X11_by (av : List Value) (n : Nat) (K : wKd) (I : wIn) (L : wLn) (R : wRf) (post : Post) : Prop := Sp yX11_by cX11_by 2 (some .int) rmX11_by av n K I L R post
abbrev C_X11_by (Γ : Gm) : Prop := Cx Γ RX11 cX11_by 2 (some .int) rmX11_by "by"
abbrev rmX11_way : Room := { frames := 4, cells := 0, slots := 0, locals := 105 }
abbrev S_X11_way (av : List Value) (n : Nat) (K : wKd) (I : wIn) (L : wLn) (R : wRf) (post : Post) : Prop := Sp yX11_way cX11_way 2 (some .int) rmX11_way av n K I L R post
abbrev C_X11_way (Γ : Gm) : Prop := Cx Γ RX11 cX11_way 2 (some .int) rmX11_way "way"
abbrev rmX11_count : Room := { frames := 4, cells := 0, slots := 0, locals := 105 }
abbrev S_X11_count (av : List Value) (n : Nat) (K : wKd) (I : wIn) (L : wLn) (R : wRf) (post : Post) : Prop := Sp yX11_count cX11_count 4 (some .int) rmX11_count av n K I L R post
abbrev C_X11_count (Γ : Gm) : Prop := Cx Γ RX11 cX11_count 4 (some .int) rmX11_count "count"
abbrev rmX11_isBell : Room := { frames := 0, cells := 0, slots := 0, locals := 0 }
abbrev S_X11_isBell (av : List Value) (n : Nat) (K : wKd) (I : wIn) (L : wLn) (R : wRf) (post : Post) : Prop := Sp yX11_isBell cX11_isBell 1 (some .boolean) rmX11_isBell av n K I L R post
abbrev C_X11_isBell (Γ : Gm) : Prop := Cx Γ RX11 cX11_isBell 1 (some .boolean) rmX11_isBell "isBell"
abbrev rmX11_tail : Room := { frames := 1, cells := 0, slots := 0, locals := 20 }
abbrev S_X11_tail (av : List Value) (n : Nat) (K : wKd) (I : wIn) (L : wLn) (R : wRf) (post : Post) : Prop := Sp yX11_tail cX11_tail 4 (some .int) rmX11_tail av n K I L R post
abbrev C_X11_tail (Γ : Gm) : Prop := Cx Γ RX11 cX11_tail 4 (some .int) rmX11_tail "tail"
abbrev rmX11_quarrel : Room := { frames := 0, cells := 0, slots := 0, locals := 0 }
abbrev S_X11_quarrel (av : List Value) (n : Nat) (K : wKd) (I : wIn) (L : wLn) (R : wRf) (post : Post) : Prop := Sp yX11_quarrel cX11_quarrel 3 (some .int) rmX11_quarrel av n K I L R post
abbrev C_X11_quarrel (Γ : Gm) : Prop := Cx Γ RX11 cX11_quarrel 3 (some .int) rmX11_quarrel "quarrel"
abbrev rmX11_sounds : Room := { frames := 0, cells := 0, slots := 0, locals := 0 }
abbrev S_X11_sounds (av : List Value) (n : Nat) (K : wKd) (I : wIn) (L : wLn) (R : wRf) (post : Post) : Prop := Sp yX11_sounds cX11_sounds 4 (some .int) rmX11_sounds av n K I L R post
abbrev C_X11_sounds (Γ : Gm) : Prop := Cx Γ RX11 cX11_sounds 4 (some .int) rmX11_sounds "sounds"
abbrev rmX11_quarrels : Room := { frames := 1, cells := 0, slots := 0, locals := 23 }
abbrev S_X11_quarrels (av : List Value) (n : Nat) (K : wKd) (I : wIn) (L : wLn) (R : wRf) (post : Post) : Prop := Sp yX11_quarrels cX11_quarrels 7 (some .int) rmX11_quarrels av n K I L R post
abbrev C_X11_quarrels (Γ : Gm) : Prop := Cx Γ RX11 cX11_quarrels 7 (some .int) rmX11_quarrels "quarrels"
abbrev rmX11_drum : Room := { frames := 0, cells := 0, slots := 0, locals := 0 }
abbrev S_X11_drum (av : List Value) (n : Nat) (K : wKd) (I : wIn) (L : wLn) (R : wRf) (post : Post) : Prop := Sp yX11_drum cX11_drum 3 (some .boolean) rmX11_drum av n K I L R post
abbrev C_X11_drum (Γ : Gm) : Prop := Cx Γ RX11 cX11_drum 3 (some .boolean) rmX11_drum "drum"
abbrev rmX11_stepOf : Room := { frames := 0, cells := 0, slots := 0, locals := 0 }
abbrev S_X11_stepOf (av : List Value) (n : Nat) (K : wKd) (I : wIn) (L : wLn) (R : wRf) (post : Post) : Prop := Sp yX11_stepOf cX11_stepOf 3 (some .int) rmX11_stepOf av n K I L R post
abbrev C_X11_stepOf (Γ : Gm) : Prop := Cx Γ RX11 cX11_stepOf 3 (some .int) rmX11_stepOf "stepOf"
abbrev rmX11_change : Room := { frames := 1, cells := 0, slots := 0, locals := 22 }
abbrev S_X11_change (av : List Value) (n : Nat) (K : wKd) (I : wIn) (L : wLn) (R : wRf) (post : Post) : Prop := Sp yX11_change cX11_change 6 (some .int) rmX11_change av n K I L R post
abbrev C_X11_change (Γ : Gm) : Prop := Cx Γ RX11 cX11_change 6 (some .int) rmX11_change "change"
abbrev rmX11_turn : Room := { frames := 0, cells := 0, slots := 0, locals := 0 }
abbrev S_X11_turn (av : List Value) (n : Nat) (K : wKd) (I : wIn) (L : wLn) (R : wRf) (post : Post) : Prop := Sp yX11_turn cX11_turn 1 (some .int) rmX11_turn av n K I L R post
abbrev C_X11_turn (Γ : Gm) : Prop := Cx Γ RX11 cX11_turn 1 (some .int) rmX11_turn "turn"
abbrev rmX11_pin : Room := { frames := 1, cells := 0, slots := 0, locals := 20 }
abbrev S_X11_pin (av : List Value) (n : Nat) (K : wKd) (I : wIn) (L : wLn) (R : wRf) (post : Post) : Prop := Sp yX11_pin cX11_pin 3 (some .int) rmX11_pin av n K I L R post
abbrev C_X11_pin (Γ : Gm) : Prop := Cx Γ RX11 cX11_pin 3 (some .int) rmX11_pin "pin"
abbrev rmX11_pins : Room := { frames := 0, cells := 0, slots := 0, locals := 0 }
abbrev S_X11_pins (av : List Value) (n : Nat) (K : wKd) (I : wIn) (L : wLn) (R : wRf) (post : Post) : Prop := Sp yX11_pins cX11_pins 4 (some .int) rmX11_pins av n K I L R post
abbrev C_X11_pins (Γ : Gm) : Prop := Cx Γ RX11 cX11_pins 4 (some .int) rmX11_pins "pins"
abbrev rmX11_play : Room := { frames := 4, cells := 0, slots := 0, locals := 105 }
abbrev S_X11_play (av : List Value) (n : Nat) (K : wKd) (I : wIn) (L : wLn) (R : wRf) (post : Post) : Prop := Sp yX11_play cX11_play 5 (some .int) rmX11_play av n K I L R post
abbrev C_X11_play (Γ : Gm) : Prop := Cx Γ RX11 cX11_play 5 (some .int) rmX11_play "play"
abbrev rmX11_strikes : Room := { frames := 1, cells := 0, slots := 0, locals := 20 }
abbrev S_X11_strikes (av : List Value) (n : Nat) (K : wKd) (I : wIn) (L : wLn) (R : wRf) (post : Post) : Prop := Sp yX11_strikes cX11_strikes 2 (some .long) rmX11_strikes av n K I L R post
abbrev C_X11_strikes (Γ : Gm) : Prop := Cx Γ RX11 cX11_strikes 2 (some .long) rmX11_strikes "strikes"
abbrev rmX11_mend : Room := { frames := 1, cells := 0, slots := 0, locals := 20 }
abbrev S_X11_mend (av : List Value) (n : Nat) (K : wKd) (I : wIn) (L : wLn) (R : wRf) (post : Post) : Prop := Sp yX11_mend cX11_mend 4 (some .long) rmX11_mend av n K I L R post
abbrev C_X11_mend (Γ : Gm) : Prop := Cx Γ RX11 cX11_mend 4 (some .long) rmX11_mend "mend"
abbrev rmX11_worn : Room := { frames := 0, cells := 0, slots := 0, locals := 0 }
abbrev S_X11_worn (av : List Value) (n : Nat) (K : wKd) (I : wIn) (L : wLn) (R : wRf) (post : Post) : Prop := Sp yX11_worn cX11_worn 4 (some .int) rmX11_worn av n K I L R post
abbrev C_X11_worn (Γ : Gm) : Prop := Cx Γ RX11 cX11_worn 4 (some .int) rmX11_worn "worn"
abbrev rmJ6_bitCount_0f7a4 : Room := { frames := 0, cells := 0, slots := 0, locals := 0 }
abbrev S_J6_bitCount_0f7a4 (av : List Value) (n : Nat) (K : wKd) (I : wIn) (L : wLn) (R : wRf) (post : Post) : Prop := Sp yJ6_bitCount_0f7a4 cJ6_bitCount_0f7a4 1 (some .int) rmJ6_bitCount_0f7a4 av n K I L R post
abbrev C_J6_bitCount_0f7a4 (Γ : Gm) : Prop := Cx Γ RJ6 cJ6_bitCount_0f7a4 1 (some .int) rmJ6_bitCount_0f7a4 "bitCount"
theorem mb_L_9 : MB RL 9 yX10_init cX10_init 1 none 0 := ⟨mem_tg (List.mem_of_getElem? (i := 58) (by decide +kernel)) rfl, mem_tg (List.mem_of_getElem? (i := 41) (by decide +kernel)) rfl, mem_tg (List.mem_of_getElem? (i := 60) (by decide +kernel)) rfl, by decide +kernel, by decide +kernel, by decide +kernel⟩
theorem mi_X10_init : Cond.instanceMethod yX10_init ∈ tg ∧ yX10_init.name = "<init>" := ⟨mem_tg (List.mem_of_getElem? (i := 59) (by decide +kernel)) rfl, rfl⟩
theorem ob_X10_1 : Cond.methodLink RX10 1 objectInit ∈ tg := mem_tg (List.mem_of_getElem? (i := 61) (by decide +kernel)) rfl
theorem ob_X7_3 : Cond.methodLink RX7 3 objectInit ∈ tg := mem_tg (List.mem_of_getElem? (i := 69) (by decide +kernel)) rfl
theorem mb_X10_18 : MB RX10 18 yX4_init cX4_init 2 none 1 := ⟨mem_tg (List.mem_of_getElem? (i := 83) (by decide +kernel)) rfl, mem_tg (List.mem_of_getElem? (i := 43) (by decide +kernel)) rfl, mem_tg (List.mem_of_getElem? (i := 85) (by decide +kernel)) rfl, by decide +kernel, by decide +kernel, by decide +kernel⟩
theorem mi_X4_init : Cond.instanceMethod yX4_init ∈ tg ∧ yX4_init.name = "<init>" := ⟨mem_tg (List.mem_of_getElem? (i := 84) (by decide +kernel)) rfl, rfl⟩
theorem ob_X4_3 : Cond.methodLink RX4 3 objectInit ∈ tg := mem_tg (List.mem_of_getElem? (i := 86) (by decide +kernel)) rfl
theorem ob_X5_3 : Cond.methodLink RX5 3 objectInit ∈ tg := mem_tg (List.mem_of_getElem? (i := 92) (by decide +kernel)) rfl
theorem ob_X2_3 : Cond.methodLink RX2 3 objectInit ∈ tg := mem_tg (List.mem_of_getElem? (i := 185) (by decide +kernel)) rfl
theorem mb_X2_20 : MB RX2 20 yX8_init cX8_init 2 none 0 := ⟨mem_tg (List.mem_of_getElem? (i := 190) (by decide +kernel)) rfl, mem_tg (List.mem_of_getElem? (i := 46) (by decide +kernel)) rfl, mem_tg (List.mem_of_getElem? (i := 192) (by decide +kernel)) rfl, by decide +kernel, by decide +kernel, by decide +kernel⟩
theorem mi_X8_init : Cond.instanceMethod yX8_init ∈ tg ∧ yX8_init.name = "<init>" := ⟨mem_tg (List.mem_of_getElem? (i := 191) (by decide +kernel)) rfl, rfl⟩
theorem ob_X8_3 : Cond.methodLink RX8 3 objectInit ∈ tg := mem_tg (List.mem_of_getElem? (i := 193) (by decide +kernel)) rfl
theorem ob_X1_3 : Cond.methodLink RX1 3 objectInit ∈ tg := mem_tg (List.mem_of_getElem? (i := 211) (by decide +kernel)) rfl
theorem ob_X0_3 : Cond.methodLink RX0 3 objectInit ∈ tg := mem_tg (List.mem_of_getElem? (i := 242) (by decide +kernel)) rfl
theorem mb_X10_42 : MB RX10 42 yX6_init cX6_init 2 none 1 := ⟨mem_tg (List.mem_of_getElem? (i := 285) (by decide +kernel)) rfl, mem_tg (List.mem_of_getElem? (i := 49) (by decide +kernel)) rfl, mem_tg (List.mem_of_getElem? (i := 287) (by decide +kernel)) rfl, by decide +kernel, by decide +kernel, by decide +kernel⟩
theorem mi_X6_init : Cond.instanceMethod yX6_init ∈ tg ∧ yX6_init.name = "<init>" := ⟨mem_tg (List.mem_of_getElem? (i := 286) (by decide +kernel)) rfl, rfl⟩
theorem ob_X6_3 : Cond.methodLink RX6 3 objectInit ∈ tg := mem_tg (List.mem_of_getElem? (i := 288) (by decide +kernel)) rfl
theorem mb_X10_51 : MB RX10 51 yX3_init cX3_init 2 none 1 := ⟨mem_tg (List.mem_of_getElem? (i := 321) (by decide +kernel)) rfl, mem_tg (List.mem_of_getElem? (i := 50) (by decide +kernel)) rfl, mem_tg (List.mem_of_getElem? (i := 323) (by decide +kernel)) rfl, by decide +kernel, by decide +kernel, by decide +kernel⟩
theorem mi_X3_init : Cond.instanceMethod yX3_init ∈ tg ∧ yX3_init.name = "<init>" := ⟨mem_tg (List.mem_of_getElem? (i := 322) (by decide +kernel)) rfl, rfl⟩
theorem ob_X3_3 : Cond.methodLink RX3 3 objectInit ∈ tg := mem_tg (List.mem_of_getElem? (i := 324) (by decide +kernel)) rfl
theorem ob_X9_3 : Cond.methodLink RX9 3 objectInit ∈ tg := mem_tg (List.mem_of_getElem? (i := 339) (by decide +kernel)) rfl
theorem mb_L_13 : MB RL 13 yX10_feed cX10_feed 6 (some .int) 5 := ⟨mem_tg (List.mem_of_getElem? (i := 377) (by decide +kernel)) rfl, mem_tg (List.mem_of_getElem? (i := 41) (by decide +kernel)) rfl, mem_tg (List.mem_of_getElem? (i := 380) (by decide +kernel)) rfl, by decide +kernel, by decide +kernel, by decide +kernel⟩
theorem mv_X10_feed : Cond.instanceMethod yX10_feed ∈ tg ∧ Cond.selects yX10_feed.cls yX10_feed yX10_feed ∈ tg := ⟨mem_tg (List.mem_of_getElem? (i := 378) (by decide +kernel)) rfl, mem_tg (List.mem_of_getElem? (i := 379) (by decide +kernel)) rfl⟩
theorem mb_X10_67 : MB RX10 67 yX7_hasRoom cX7_hasRoom 1 (some .boolean) 0 := ⟨mem_tg (List.mem_of_getElem? (i := 381) (by decide +kernel)) rfl, mem_tg (List.mem_of_getElem? (i := 42) (by decide +kernel)) rfl, mem_tg (List.mem_of_getElem? (i := 384) (by decide +kernel)) rfl, by decide +kernel, by decide +kernel, by decide +kernel⟩
theorem mv_X7_hasRoom : Cond.instanceMethod yX7_hasRoom ∈ tg ∧ Cond.selects yX7_hasRoom.cls yX7_hasRoom yX7_hasRoom ∈ tg := ⟨mem_tg (List.mem_of_getElem? (i := 382) (by decide +kernel)) rfl, mem_tg (List.mem_of_getElem? (i := 383) (by decide +kernel)) rfl⟩
theorem mb_X10_71 : MB RX10 71 yX7_addNumber cX7_addNumber 3 none 1 := ⟨mem_tg (List.mem_of_getElem? (i := 385) (by decide +kernel)) rfl, mem_tg (List.mem_of_getElem? (i := 42) (by decide +kernel)) rfl, mem_tg (List.mem_of_getElem? (i := 388) (by decide +kernel)) rfl, by decide +kernel, by decide +kernel, by decide +kernel⟩
theorem mv_X7_addNumber : Cond.instanceMethod yX7_addNumber ∈ tg ∧ Cond.selects yX7_addNumber.cls yX7_addNumber yX7_addNumber ∈ tg := ⟨mem_tg (List.mem_of_getElem? (i := 386) (by decide +kernel)) rfl, mem_tg (List.mem_of_getElem? (i := 387) (by decide +kernel)) rfl⟩
theorem mb_L_18 : MB RL 18 yX10_end cX10_end 2 (some .boolean) 1 := ⟨mem_tg (List.mem_of_getElem? (i := 389) (by decide +kernel)) rfl, mem_tg (List.mem_of_getElem? (i := 41) (by decide +kernel)) rfl, mem_tg (List.mem_of_getElem? (i := 392) (by decide +kernel)) rfl, by decide +kernel, by decide +kernel, by decide +kernel⟩
theorem mv_X10_end : Cond.instanceMethod yX10_end ∈ tg ∧ Cond.selects yX10_end.cls yX10_end yX10_end ∈ tg := ⟨mem_tg (List.mem_of_getElem? (i := 390) (by decide +kernel)) rfl, mem_tg (List.mem_of_getElem? (i := 391) (by decide +kernel)) rfl⟩
theorem mb_L_23 : MB RL 23 yX10_score cX10_score 2 (some .int) 0 := ⟨mem_tg (List.mem_of_getElem? (i := 393) (by decide +kernel)) rfl, mem_tg (List.mem_of_getElem? (i := 41) (by decide +kernel)) rfl, mem_tg (List.mem_of_getElem? (i := 396) (by decide +kernel)) rfl, by decide +kernel, by decide +kernel, by decide +kernel⟩
theorem mv_X10_score : Cond.instanceMethod yX10_score ∈ tg ∧ Cond.selects yX10_score.cls yX10_score yX10_score ∈ tg := ⟨mem_tg (List.mem_of_getElem? (i := 394) (by decide +kernel)) rfl, mem_tg (List.mem_of_getElem? (i := 395) (by decide +kernel)) rfl⟩
theorem mb_X10_79 : MB RX10 79 yX4_readAll cX4_readAll 4 (some .boolean) 0 := ⟨mem_tg (List.mem_of_getElem? (i := 397) (by decide +kernel)) rfl, mem_tg (List.mem_of_getElem? (i := 43) (by decide +kernel)) rfl, mem_tg (List.mem_of_getElem? (i := 400) (by decide +kernel)) rfl, by decide +kernel, by decide +kernel, by decide +kernel⟩
theorem mv_X4_readAll : Cond.instanceMethod yX4_readAll ∈ tg ∧ Cond.selects yX4_readAll.cls yX4_readAll yX4_readAll ∈ tg := ⟨mem_tg (List.mem_of_getElem? (i := 398) (by decide +kernel)) rfl, mem_tg (List.mem_of_getElem? (i := 399) (by decide +kernel)) rfl⟩
theorem mb_X4_35 : MB RX4 35 yX4_start cX4_start 1 none 0 := ⟨mem_tg (List.mem_of_getElem? (i := 401) (by decide +kernel)) rfl, mem_tg (List.mem_of_getElem? (i := 43) (by decide +kernel)) rfl, mem_tg (List.mem_of_getElem? (i := 404) (by decide +kernel)) rfl, by decide +kernel, by decide +kernel, by decide +kernel⟩
theorem mv_X4_start : Cond.instanceMethod yX4_start ∈ tg ∧ Cond.selects yX4_start.cls yX4_start yX4_start ∈ tg := ⟨mem_tg (List.mem_of_getElem? (i := 403) (by decide +kernel)) rfl, mem_tg (List.mem_of_getElem? (i := 0) (by decide +kernel)) rfl⟩
theorem mb_X4_77 : MB RX4 77 yX5_clear cX5_clear 1 none 0 := ⟨mem_tg (List.mem_of_getElem? (i := 405) (by decide +kernel)) rfl, mem_tg (List.mem_of_getElem? (i := 44) (by decide +kernel)) rfl, mem_tg (List.mem_of_getElem? (i := 408) (by decide +kernel)) rfl, by decide +kernel, by decide +kernel, by decide +kernel⟩
theorem mv_X5_clear : Cond.instanceMethod yX5_clear ∈ tg ∧ Cond.selects yX5_clear.cls yX5_clear yX5_clear ∈ tg := ⟨mem_tg (List.mem_of_getElem? (i := 406) (by decide +kernel)) rfl, mem_tg (List.mem_of_getElem? (i := 407) (by decide +kernel)) rfl⟩
theorem mb_X4_39 : MB RX4 39 yX4_nextSign cX4_nextSign 2 (some .int) 0 := ⟨mem_tg (List.mem_of_getElem? (i := 410) (by decide +kernel)) rfl, mem_tg (List.mem_of_getElem? (i := 43) (by decide +kernel)) rfl, mem_tg (List.mem_of_getElem? (i := 413) (by decide +kernel)) rfl, by decide +kernel, by decide +kernel, by decide +kernel⟩
theorem mv_X4_nextSign : Cond.instanceMethod yX4_nextSign ∈ tg ∧ Cond.selects yX4_nextSign.cls yX4_nextSign yX4_nextSign ∈ tg := ⟨mem_tg (List.mem_of_getElem? (i := 412) (by decide +kernel)) rfl, mem_tg (List.mem_of_getElem? (i := 1) (by decide +kernel)) rfl⟩
theorem mb_X4_131 : MB RX4 131 yX4_signHere cX4_signHere 1 (some .int) 0 := ⟨mem_tg (List.mem_of_getElem? (i := 414) (by decide +kernel)) rfl, mem_tg (List.mem_of_getElem? (i := 43) (by decide +kernel)) rfl, mem_tg (List.mem_of_getElem? (i := 417) (by decide +kernel)) rfl, by decide +kernel, by decide +kernel, by decide +kernel⟩
theorem mv_X4_signHere : Cond.instanceMethod yX4_signHere ∈ tg ∧ Cond.selects yX4_signHere.cls yX4_signHere yX4_signHere ∈ tg := ⟨mem_tg (List.mem_of_getElem? (i := 416) (by decide +kernel)) rfl, mem_tg (List.mem_of_getElem? (i := 2) (by decide +kernel)) rfl⟩
theorem mb_X4_43 : MB RX4 43 yX4_isDigit cX4_isDigit 1 (some .boolean) 1 := ⟨mem_tg (List.mem_of_getElem? (i := 418) (by decide +kernel)) rfl, mem_tg (List.mem_of_getElem? (i := 43) (by decide +kernel)) rfl, mem_tg (List.mem_of_getElem? (i := 420) (by decide +kernel)) rfl, by decide +kernel, by decide +kernel, by decide +kernel⟩
theorem ms_X4_isDigit : Cond.static yX4_isDigit ∈ tg := mem_tg (List.mem_of_getElem? (i := 419) (by decide +kernel)) rfl
theorem mb_X4_47 : MB RX4 47 yX4_openGroup cX4_openGroup 2 none 0 := ⟨mem_tg (List.mem_of_getElem? (i := 421) (by decide +kernel)) rfl, mem_tg (List.mem_of_getElem? (i := 43) (by decide +kernel)) rfl, mem_tg (List.mem_of_getElem? (i := 424) (by decide +kernel)) rfl, by decide +kernel, by decide +kernel, by decide +kernel⟩
theorem mv_X4_openGroup : Cond.instanceMethod yX4_openGroup ∈ tg ∧ Cond.selects yX4_openGroup.cls yX4_openGroup yX4_openGroup ∈ tg := ⟨mem_tg (List.mem_of_getElem? (i := 423) (by decide +kernel)) rfl, mem_tg (List.mem_of_getElem? (i := 3) (by decide +kernel)) rfl⟩
theorem mb_X4_86 : MB RX4 86 yX4_readNumber cX4_readNumber 6 (some .int) 2 := ⟨mem_tg (List.mem_of_getElem? (i := 425) (by decide +kernel)) rfl, mem_tg (List.mem_of_getElem? (i := 43) (by decide +kernel)) rfl, mem_tg (List.mem_of_getElem? (i := 428) (by decide +kernel)) rfl, by decide +kernel, by decide +kernel, by decide +kernel⟩
theorem mv_X4_readNumber : Cond.instanceMethod yX4_readNumber ∈ tg ∧ Cond.selects yX4_readNumber.cls yX4_readNumber yX4_readNumber ∈ tg := ⟨mem_tg (List.mem_of_getElem? (i := 427) (by decide +kernel)) rfl, mem_tg (List.mem_of_getElem? (i := 4) (by decide +kernel)) rfl⟩
theorem mb_X4_64 : MB RX4 64 yX4_fail cX4_fail 3 none 2 := ⟨mem_tg (List.mem_of_getElem? (i := 429) (by decide +kernel)) rfl, mem_tg (List.mem_of_getElem? (i := 43) (by decide +kernel)) rfl, mem_tg (List.mem_of_getElem? (i := 432) (by decide +kernel)) rfl, by decide +kernel, by decide +kernel, by decide +kernel⟩
theorem mv_X4_fail : Cond.instanceMethod yX4_fail ∈ tg ∧ Cond.selects yX4_fail.cls yX4_fail yX4_fail ∈ tg := ⟨mem_tg (List.mem_of_getElem? (i := 431) (by decide +kernel)) rfl, mem_tg (List.mem_of_getElem? (i := 5) (by decide +kernel)) rfl⟩
theorem mb_X4_90 : MB RX4 90 yX4_expect cX4_expect 2 none 1 := ⟨mem_tg (List.mem_of_getElem? (i := 433) (by decide +kernel)) rfl, mem_tg (List.mem_of_getElem? (i := 43) (by decide +kernel)) rfl, mem_tg (List.mem_of_getElem? (i := 436) (by decide +kernel)) rfl, by decide +kernel, by decide +kernel, by decide +kernel⟩
theorem mv_X4_expect : Cond.instanceMethod yX4_expect ∈ tg ∧ Cond.selects yX4_expect.cls yX4_expect yX4_expect ∈ tg := ⟨mem_tg (List.mem_of_getElem? (i := 435) (by decide +kernel)) rfl, mem_tg (List.mem_of_getElem? (i := 6) (by decide +kernel)) rfl⟩
theorem mb_X4_50 : MB RX4 50 yX4_closeGroup cX4_closeGroup 3 none 0 := ⟨mem_tg (List.mem_of_getElem? (i := 437) (by decide +kernel)) rfl, mem_tg (List.mem_of_getElem? (i := 43) (by decide +kernel)) rfl, mem_tg (List.mem_of_getElem? (i := 440) (by decide +kernel)) rfl, by decide +kernel, by decide +kernel, by decide +kernel⟩
theorem mv_X4_closeGroup : Cond.instanceMethod yX4_closeGroup ∈ tg ∧ Cond.selects yX4_closeGroup.cls yX4_closeGroup yX4_closeGroup ∈ tg := ⟨mem_tg (List.mem_of_getElem? (i := 439) (by decide +kernel)) rfl, mem_tg (List.mem_of_getElem? (i := 7) (by decide +kernel)) rfl⟩
theorem mb_X4_53 : MB RX4 53 yX4_readItem cX4_readItem 3 none 1 := ⟨mem_tg (List.mem_of_getElem? (i := 441) (by decide +kernel)) rfl, mem_tg (List.mem_of_getElem? (i := 43) (by decide +kernel)) rfl, mem_tg (List.mem_of_getElem? (i := 444) (by decide +kernel)) rfl, by decide +kernel, by decide +kernel, by decide +kernel⟩
theorem mv_X4_readItem : Cond.instanceMethod yX4_readItem ∈ tg ∧ Cond.selects yX4_readItem.cls yX4_readItem yX4_readItem ∈ tg := ⟨mem_tg (List.mem_of_getElem? (i := 443) (by decide +kernel)) rfl, mem_tg (List.mem_of_getElem? (i := 8) (by decide +kernel)) rfl⟩
theorem mb_X4_97 : MB RX4 97 yX4_readBell cX4_readBell 3 (some .int) 0 := ⟨mem_tg (List.mem_of_getElem? (i := 445) (by decide +kernel)) rfl, mem_tg (List.mem_of_getElem? (i := 43) (by decide +kernel)) rfl, mem_tg (List.mem_of_getElem? (i := 448) (by decide +kernel)) rfl, by decide +kernel, by decide +kernel, by decide +kernel⟩
theorem mv_X4_readBell : Cond.instanceMethod yX4_readBell ∈ tg ∧ Cond.selects yX4_readBell.cls yX4_readBell yX4_readBell ∈ tg := ⟨mem_tg (List.mem_of_getElem? (i := 447) (by decide +kernel)) rfl, mem_tg (List.mem_of_getElem? (i := 9) (by decide +kernel)) rfl⟩
theorem mb_X4_116 : MB RX4 116 yJ6_bitCount_0f7a4 cJ6_bitCount_0f7a4 1 (some .int) 1 := ⟨mem_tg (List.mem_of_getElem? (i := 449) (by decide +kernel)) rfl, mem_tg (List.mem_of_getElem? (i := 53) (by decide +kernel)) rfl, mem_tg (List.mem_of_getElem? (i := 451) (by decide +kernel)) rfl, by decide +kernel, by decide +kernel, by decide +kernel⟩
theorem ms_J6_bitCount_0f7a4 : Cond.static yJ6_bitCount_0f7a4 ∈ tg := mem_tg (List.mem_of_getElem? (i := 450) (by decide +kernel)) rfl
theorem mb_X4_100 : MB RX4 100 yX4_readChord cX4_readChord 2 none 0 := ⟨mem_tg (List.mem_of_getElem? (i := 455) (by decide +kernel)) rfl, mem_tg (List.mem_of_getElem? (i := 43) (by decide +kernel)) rfl, mem_tg (List.mem_of_getElem? (i := 458) (by decide +kernel)) rfl, by decide +kernel, by decide +kernel, by decide +kernel⟩
theorem mv_X4_readChord : Cond.instanceMethod yX4_readChord ∈ tg ∧ Cond.selects yX4_readChord.cls yX4_readChord yX4_readChord ∈ tg := ⟨mem_tg (List.mem_of_getElem? (i := 457) (by decide +kernel)) rfl, mem_tg (List.mem_of_getElem? (i := 10) (by decide +kernel)) rfl⟩
theorem mb_X4_109 : MB RX4 109 yX4_readLength cX4_readLength 2 none 0 := ⟨mem_tg (List.mem_of_getElem? (i := 459) (by decide +kernel)) rfl, mem_tg (List.mem_of_getElem? (i := 43) (by decide +kernel)) rfl, mem_tg (List.mem_of_getElem? (i := 462) (by decide +kernel)) rfl, by decide +kernel, by decide +kernel, by decide +kernel⟩
theorem mv_X4_readLength : Cond.instanceMethod yX4_readLength ∈ tg ∧ Cond.selects yX4_readLength.cls yX4_readLength yX4_readLength ∈ tg := ⟨mem_tg (List.mem_of_getElem? (i := 461) (by decide +kernel)) rfl, mem_tg (List.mem_of_getElem? (i := 11) (by decide +kernel)) rfl⟩
theorem mb_X4_112 : MB RX4 112 yX4_writeItem cX4_writeItem 5 none 2 := ⟨mem_tg (List.mem_of_getElem? (i := 463) (by decide +kernel)) rfl, mem_tg (List.mem_of_getElem? (i := 43) (by decide +kernel)) rfl, mem_tg (List.mem_of_getElem? (i := 466) (by decide +kernel)) rfl, by decide +kernel, by decide +kernel, by decide +kernel⟩
theorem mv_X4_writeItem : Cond.instanceMethod yX4_writeItem ∈ tg ∧ Cond.selects yX4_writeItem.cls yX4_writeItem yX4_writeItem ∈ tg := ⟨mem_tg (List.mem_of_getElem? (i := 465) (by decide +kernel)) rfl, mem_tg (List.mem_of_getElem? (i := 12) (by decide +kernel)) rfl⟩
theorem mb_X4_128 : MB RX4 128 yX5_addStrike cX5_addStrike 3 none 2 := ⟨mem_tg (List.mem_of_getElem? (i := 467) (by decide +kernel)) rfl, mem_tg (List.mem_of_getElem? (i := 44) (by decide +kernel)) rfl, mem_tg (List.mem_of_getElem? (i := 470) (by decide +kernel)) rfl, by decide +kernel, by decide +kernel, by decide +kernel⟩
theorem mv_X5_addStrike : Cond.instanceMethod yX5_addStrike ∈ tg ∧ Cond.selects yX5_addStrike.cls yX5_addStrike yX5_addStrike ∈ tg := ⟨mem_tg (List.mem_of_getElem? (i := 468) (by decide +kernel)) rfl, mem_tg (List.mem_of_getElem? (i := 469) (by decide +kernel)) rfl⟩
theorem mb_X10_93 : MB RX10 93 yX5_copyFrom cX5_copyFrom 2 none 1 := ⟨mem_tg (List.mem_of_getElem? (i := 471) (by decide +kernel)) rfl, mem_tg (List.mem_of_getElem? (i := 44) (by decide +kernel)) rfl, mem_tg (List.mem_of_getElem? (i := 474) (by decide +kernel)) rfl, by decide +kernel, by decide +kernel, by decide +kernel⟩
theorem mv_X5_copyFrom : Cond.instanceMethod yX5_copyFrom ∈ tg ∧ Cond.selects yX5_copyFrom.cls yX5_copyFrom yX5_copyFrom ∈ tg := ⟨mem_tg (List.mem_of_getElem? (i := 472) (by decide +kernel)) rfl, mem_tg (List.mem_of_getElem? (i := 473) (by decide +kernel)) rfl⟩
theorem cp_X5_31 : Cond.methodLink RX5 31 arraycopyName ∈ tg := mem_tg (List.mem_of_getElem? (i := 475) (by decide +kernel)) rfl
theorem mb_L_28 : MB RL 28 yX10_fault cX10_fault 2 (some .int) 1 := ⟨mem_tg (List.mem_of_getElem? (i := 478) (by decide +kernel)) rfl, mem_tg (List.mem_of_getElem? (i := 41) (by decide +kernel)) rfl, mem_tg (List.mem_of_getElem? (i := 481) (by decide +kernel)) rfl, by decide +kernel, by decide +kernel, by decide +kernel⟩
theorem mv_X10_fault : Cond.instanceMethod yX10_fault ∈ tg ∧ Cond.selects yX10_fault.cls yX10_fault yX10_fault ∈ tg := ⟨mem_tg (List.mem_of_getElem? (i := 479) (by decide +kernel)) rfl, mem_tg (List.mem_of_getElem? (i := 480) (by decide +kernel)) rfl⟩
theorem mb_L_33 : MB RL 33 yX10_strike cX10_strike 3 (some .int) 2 := ⟨mem_tg (List.mem_of_getElem? (i := 482) (by decide +kernel)) rfl, mem_tg (List.mem_of_getElem? (i := 41) (by decide +kernel)) rfl, mem_tg (List.mem_of_getElem? (i := 485) (by decide +kernel)) rfl, by decide +kernel, by decide +kernel, by decide +kernel⟩
theorem mv_X10_strike : Cond.instanceMethod yX10_strike ∈ tg ∧ Cond.selects yX10_strike.cls yX10_strike yX10_strike ∈ tg := ⟨mem_tg (List.mem_of_getElem? (i := 483) (by decide +kernel)) rfl, mem_tg (List.mem_of_getElem? (i := 484) (by decide +kernel)) rfl⟩
theorem mb_X10_99 : MB RX10 99 yX5_has cX5_has 2 (some .boolean) 1 := ⟨mem_tg (List.mem_of_getElem? (i := 486) (by decide +kernel)) rfl, mem_tg (List.mem_of_getElem? (i := 44) (by decide +kernel)) rfl, mem_tg (List.mem_of_getElem? (i := 489) (by decide +kernel)) rfl, by decide +kernel, by decide +kernel, by decide +kernel⟩
theorem mv_X5_has : Cond.instanceMethod yX5_has ∈ tg ∧ Cond.selects yX5_has.cls yX5_has yX5_has ∈ tg := ⟨mem_tg (List.mem_of_getElem? (i := 487) (by decide +kernel)) rfl, mem_tg (List.mem_of_getElem? (i := 488) (by decide +kernel)) rfl⟩
theorem mb_L_38 : MB RL 38 yX10_count cX10_count 2 (some .int) 1 := ⟨mem_tg (List.mem_of_getElem? (i := 490) (by decide +kernel)) rfl, mem_tg (List.mem_of_getElem? (i := 41) (by decide +kernel)) rfl, mem_tg (List.mem_of_getElem? (i := 493) (by decide +kernel)) rfl, by decide +kernel, by decide +kernel, by decide +kernel⟩
theorem mv_X10_count : Cond.instanceMethod yX10_count ∈ tg ∧ Cond.selects yX10_count.cls yX10_count yX10_count ∈ tg := ⟨mem_tg (List.mem_of_getElem? (i := 491) (by decide +kernel)) rfl, mem_tg (List.mem_of_getElem? (i := 492) (by decide +kernel)) rfl⟩
theorem mb_X10_113 : MB RX10 113 yX10_theSetting cX10_theSetting 1 (some (.object "CarillonDesk$Setting")) 0 := ⟨mem_tg (List.mem_of_getElem? (i := 494) (by decide +kernel)) rfl, mem_tg (List.mem_of_getElem? (i := 41) (by decide +kernel)) rfl, mem_tg (List.mem_of_getElem? (i := 497) (by decide +kernel)) rfl, by decide +kernel, by decide +kernel, by decide +kernel⟩
theorem mv_X10_theSetting : Cond.instanceMethod yX10_theSetting ∈ tg ∧ Cond.selects yX10_theSetting.cls yX10_theSetting yX10_theSetting ∈ tg := ⟨mem_tg (List.mem_of_getElem? (i := 496) (by decide +kernel)) rfl, mem_tg (List.mem_of_getElem? (i := 13) (by decide +kernel)) rfl⟩
theorem mb_X10_227 : MB RX10 227 yX6_settle cX6_settle 5 none 2 := ⟨mem_tg (List.mem_of_getElem? (i := 498) (by decide +kernel)) rfl, mem_tg (List.mem_of_getElem? (i := 49) (by decide +kernel)) rfl, mem_tg (List.mem_of_getElem? (i := 501) (by decide +kernel)) rfl, by decide +kernel, by decide +kernel, by decide +kernel⟩
theorem mv_X6_settle : Cond.instanceMethod yX6_settle ∈ tg ∧ Cond.selects yX6_settle.cls yX6_settle yX6_settle ∈ tg := ⟨mem_tg (List.mem_of_getElem? (i := 499) (by decide +kernel)) rfl, mem_tg (List.mem_of_getElem? (i := 500) (by decide +kernel)) rfl⟩
theorem mb_X6_37 : MB RX6 37 yX6_spot cX6_spot 2 (some .int) 2 := ⟨mem_tg (List.mem_of_getElem? (i := 502) (by decide +kernel)) rfl, mem_tg (List.mem_of_getElem? (i := 49) (by decide +kernel)) rfl, mem_tg (List.mem_of_getElem? (i := 504) (by decide +kernel)) rfl, by decide +kernel, by decide +kernel, by decide +kernel⟩
theorem ms_X6_spot : Cond.static yX6_spot ∈ tg := mem_tg (List.mem_of_getElem? (i := 503) (by decide +kernel)) rfl
theorem mb_X6_41 : MB RX6 41 yX6_leastRest cX6_leastRest 9 (some .int) 2 := ⟨mem_tg (List.mem_of_getElem? (i := 505) (by decide +kernel)) rfl, mem_tg (List.mem_of_getElem? (i := 49) (by decide +kernel)) rfl, mem_tg (List.mem_of_getElem? (i := 508) (by decide +kernel)) rfl, by decide +kernel, by decide +kernel, by decide +kernel⟩
theorem mv_X6_leastRest : Cond.instanceMethod yX6_leastRest ∈ tg ∧ Cond.selects yX6_leastRest.cls yX6_leastRest yX6_leastRest ∈ tg := ⟨mem_tg (List.mem_of_getElem? (i := 507) (by decide +kernel)) rfl, mem_tg (List.mem_of_getElem? (i := 14) (by decide +kernel)) rfl⟩
theorem mm_X6_50 : Cond.methodLink RX6 50 Lib.Math.max.name ∈ tg := mem_tg (List.mem_of_getElem? (i := 509) (by decide +kernel)) rfl
theorem mb_X6_55 : MB RX6 55 yX6_costBy cX6_costBy 7 (some .int) 4 := ⟨mem_tg (List.mem_of_getElem? (i := 512) (by decide +kernel)) rfl, mem_tg (List.mem_of_getElem? (i := 49) (by decide +kernel)) rfl, mem_tg (List.mem_of_getElem? (i := 515) (by decide +kernel)) rfl, by decide +kernel, by decide +kernel, by decide +kernel⟩
theorem mv_X6_costBy : Cond.instanceMethod yX6_costBy ∈ tg ∧ Cond.selects yX6_costBy.cls yX6_costBy yX6_costBy ∈ tg := ⟨mem_tg (List.mem_of_getElem? (i := 514) (by decide +kernel)) rfl, mem_tg (List.mem_of_getElem? (i := 15) (by decide +kernel)) rfl⟩
theorem mb_X6_65 : MB RX6 65 yX6_moveTo cX6_moveTo 5 (some .int) 2 := ⟨mem_tg (List.mem_of_getElem? (i := 516) (by decide +kernel)) rfl, mem_tg (List.mem_of_getElem? (i := 49) (by decide +kernel)) rfl, mem_tg (List.mem_of_getElem? (i := 519) (by decide +kernel)) rfl, by decide +kernel, by decide +kernel, by decide +kernel⟩
theorem mv_X6_moveTo : Cond.instanceMethod yX6_moveTo ∈ tg ∧ Cond.selects yX6_moveTo.cls yX6_moveTo yX6_moveTo ∈ tg := ⟨mem_tg (List.mem_of_getElem? (i := 518) (by decide +kernel)) rfl, mem_tg (List.mem_of_getElem? (i := 16) (by decide +kernel)) rfl⟩
theorem mb_X6_68 : MB RX6 68 yX5_bellsBetween cX5_bellsBetween 3 (some .int) 2 := ⟨mem_tg (List.mem_of_getElem? (i := 520) (by decide +kernel)) rfl, mem_tg (List.mem_of_getElem? (i := 44) (by decide +kernel)) rfl, mem_tg (List.mem_of_getElem? (i := 523) (by decide +kernel)) rfl, by decide +kernel, by decide +kernel, by decide +kernel⟩
theorem mv_X5_bellsBetween : Cond.instanceMethod yX5_bellsBetween ∈ tg ∧ Cond.selects yX5_bellsBetween.cls yX5_bellsBetween yX5_bellsBetween ∈ tg := ⟨mem_tg (List.mem_of_getElem? (i := 521) (by decide +kernel)) rfl, mem_tg (List.mem_of_getElem? (i := 522) (by decide +kernel)) rfl⟩
theorem mm_X5_25 : Cond.methodLink RX5 25 Lib.Math.abs.name ∈ tg := mem_tg (List.mem_of_getElem? (i := 524) (by decide +kernel)) rfl
theorem mm_X6_59 : Cond.methodLink RX6 59 Lib.Math.min.name ∈ tg := mem_tg (List.mem_of_getElem? (i := 527) (by decide +kernel)) rfl
theorem mb_X6_47 : MB RX6 47 yX6_walk cX6_walk 5 none 0 := ⟨mem_tg (List.mem_of_getElem? (i := 530) (by decide +kernel)) rfl, mem_tg (List.mem_of_getElem? (i := 49) (by decide +kernel)) rfl, mem_tg (List.mem_of_getElem? (i := 533) (by decide +kernel)) rfl, by decide +kernel, by decide +kernel, by decide +kernel⟩
theorem mv_X6_walk : Cond.instanceMethod yX6_walk ∈ tg ∧ Cond.selects yX6_walk.cls yX6_walk yX6_walk ∈ tg := ⟨mem_tg (List.mem_of_getElem? (i := 532) (by decide +kernel)) rfl, mem_tg (List.mem_of_getElem? (i := 17) (by decide +kernel)) rfl⟩
theorem mb_L_42 : MB RL 42 yX10_fists cX10_fists 3 (some .boolean) 2 := ⟨mem_tg (List.mem_of_getElem? (i := 534) (by decide +kernel)) rfl, mem_tg (List.mem_of_getElem? (i := 41) (by decide +kernel)) rfl, mem_tg (List.mem_of_getElem? (i := 537) (by decide +kernel)) rfl, by decide +kernel, by decide +kernel, by decide +kernel⟩
theorem mv_X10_fists : Cond.instanceMethod yX10_fists ∈ tg ∧ Cond.selects yX10_fists.cls yX10_fists yX10_fists ∈ tg := ⟨mem_tg (List.mem_of_getElem? (i := 535) (by decide +kernel)) rfl, mem_tg (List.mem_of_getElem? (i := 536) (by decide +kernel)) rfl⟩
theorem mb_L_47 : MB RL 47 yX10_cost cX10_cost 1 (some .int) 0 := ⟨mem_tg (List.mem_of_getElem? (i := 538) (by decide +kernel)) rfl, mem_tg (List.mem_of_getElem? (i := 41) (by decide +kernel)) rfl, mem_tg (List.mem_of_getElem? (i := 541) (by decide +kernel)) rfl, by decide +kernel, by decide +kernel, by decide +kernel⟩
theorem mv_X10_cost : Cond.instanceMethod yX10_cost ∈ tg ∧ Cond.selects yX10_cost.cls yX10_cost yX10_cost ∈ tg := ⟨mem_tg (List.mem_of_getElem? (i := 539) (by decide +kernel)) rfl, mem_tg (List.mem_of_getElem? (i := 540) (by decide +kernel)) rfl⟩
theorem mb_L_51 : MB RL 51 yX10_need cX10_need 1 (some .int) 0 := ⟨mem_tg (List.mem_of_getElem? (i := 542) (by decide +kernel)) rfl, mem_tg (List.mem_of_getElem? (i := 41) (by decide +kernel)) rfl, mem_tg (List.mem_of_getElem? (i := 545) (by decide +kernel)) rfl, by decide +kernel, by decide +kernel, by decide +kernel⟩
theorem mv_X10_need : Cond.instanceMethod yX10_need ∈ tg ∧ Cond.selects yX10_need.cls yX10_need yX10_need ∈ tg := ⟨mem_tg (List.mem_of_getElem? (i := 543) (by decide +kernel)) rfl, mem_tg (List.mem_of_getElem? (i := 544) (by decide +kernel)) rfl⟩
theorem mb_X10_129 : MB RX10 129 yX3_leastReach cX3_leastReach 4 (some .int) 0 := ⟨mem_tg (List.mem_of_getElem? (i := 546) (by decide +kernel)) rfl, mem_tg (List.mem_of_getElem? (i := 50) (by decide +kernel)) rfl, mem_tg (List.mem_of_getElem? (i := 549) (by decide +kernel)) rfl, by decide +kernel, by decide +kernel, by decide +kernel⟩
theorem mv_X3_leastReach : Cond.instanceMethod yX3_leastReach ∈ tg ∧ Cond.selects yX3_leastReach.cls yX3_leastReach yX3_leastReach ∈ tg := ⟨mem_tg (List.mem_of_getElem? (i := 547) (by decide +kernel)) rfl, mem_tg (List.mem_of_getElem? (i := 548) (by decide +kernel)) rfl⟩
theorem mb_X3_26 : MB RX3 26 yX3_handOver cX3_handOver 5 (some .int) 2 := ⟨mem_tg (List.mem_of_getElem? (i := 550) (by decide +kernel)) rfl, mem_tg (List.mem_of_getElem? (i := 50) (by decide +kernel)) rfl, mem_tg (List.mem_of_getElem? (i := 553) (by decide +kernel)) rfl, by decide +kernel, by decide +kernel, by decide +kernel⟩
theorem mv_X3_handOver : Cond.instanceMethod yX3_handOver ∈ tg ∧ Cond.selects yX3_handOver.cls yX3_handOver yX3_handOver ∈ tg := ⟨mem_tg (List.mem_of_getElem? (i := 552) (by decide +kernel)) rfl, mem_tg (List.mem_of_getElem? (i := 18) (by decide +kernel)) rfl⟩
theorem mb_X3_43 : MB RX3 43 yX3_reachFor cX3_reachFor 4 (some .int) 2 := ⟨mem_tg (List.mem_of_getElem? (i := 554) (by decide +kernel)) rfl, mem_tg (List.mem_of_getElem? (i := 50) (by decide +kernel)) rfl, mem_tg (List.mem_of_getElem? (i := 557) (by decide +kernel)) rfl, by decide +kernel, by decide +kernel, by decide +kernel⟩
theorem mv_X3_reachFor : Cond.instanceMethod yX3_reachFor ∈ tg ∧ Cond.selects yX3_reachFor.cls yX3_reachFor yX3_reachFor ∈ tg := ⟨mem_tg (List.mem_of_getElem? (i := 556) (by decide +kernel)) rfl, mem_tg (List.mem_of_getElem? (i := 19) (by decide +kernel)) rfl⟩
theorem mb_X3_49 : MB RX3 49 yX5_bellsBetween cX5_bellsBetween 3 (some .int) 2 := ⟨mem_tg (List.mem_of_getElem? (i := 558) (by decide +kernel)) rfl, mem_tg (List.mem_of_getElem? (i := 44) (by decide +kernel)) rfl, mem_tg (List.mem_of_getElem? (i := 523) (by decide +kernel)) rfl, by decide +kernel, by decide +kernel, by decide +kernel⟩
theorem mm_X3_46 : Cond.methodLink RX3 46 Lib.Math.max.name ∈ tg := mem_tg (List.mem_of_getElem? (i := 559) (by decide +kernel)) rfl
theorem mm_X3_34 : Cond.methodLink RX3 34 Lib.Math.min.name ∈ tg := mem_tg (List.mem_of_getElem? (i := 560) (by decide +kernel)) rfl
theorem mb_X3_30 : MB RX3 30 yX3_stay cX3_stay 5 none 2 := ⟨mem_tg (List.mem_of_getElem? (i := 561) (by decide +kernel)) rfl, mem_tg (List.mem_of_getElem? (i := 50) (by decide +kernel)) rfl, mem_tg (List.mem_of_getElem? (i := 564) (by decide +kernel)) rfl, by decide +kernel, by decide +kernel, by decide +kernel⟩
theorem mv_X3_stay : Cond.instanceMethod yX3_stay ∈ tg ∧ Cond.selects yX3_stay.cls yX3_stay yX3_stay ∈ tg := ⟨mem_tg (List.mem_of_getElem? (i := 563) (by decide +kernel)) rfl, mem_tg (List.mem_of_getElem? (i := 20) (by decide +kernel)) rfl⟩
theorem mb_L_55 : MB RL 55 yX10_by cX10_by 2 (some .int) 1 := ⟨mem_tg (List.mem_of_getElem? (i := 565) (by decide +kernel)) rfl, mem_tg (List.mem_of_getElem? (i := 41) (by decide +kernel)) rfl, mem_tg (List.mem_of_getElem? (i := 568) (by decide +kernel)) rfl, by decide +kernel, by decide +kernel, by decide +kernel⟩
theorem mv_X10_by : Cond.instanceMethod yX10_by ∈ tg ∧ Cond.selects yX10_by.cls yX10_by yX10_by ∈ tg := ⟨mem_tg (List.mem_of_getElem? (i := 566) (by decide +kernel)) rfl, mem_tg (List.mem_of_getElem? (i := 567) (by decide +kernel)) rfl⟩
theorem mb_L_59 : MB RL 59 yX10_way cX10_way 2 (some .int) 1 := ⟨mem_tg (List.mem_of_getElem? (i := 569) (by decide +kernel)) rfl, mem_tg (List.mem_of_getElem? (i := 41) (by decide +kernel)) rfl, mem_tg (List.mem_of_getElem? (i := 572) (by decide +kernel)) rfl, by decide +kernel, by decide +kernel, by decide +kernel⟩
theorem mv_X10_way : Cond.instanceMethod yX10_way ∈ tg ∧ Cond.selects yX10_way.cls yX10_way yX10_way ∈ tg := ⟨mem_tg (List.mem_of_getElem? (i := 570) (by decide +kernel)) rfl, mem_tg (List.mem_of_getElem? (i := 571) (by decide +kernel)) rfl⟩
theorem mb_L_63 : MB RL 63 yX10_tail cX10_tail 4 (some .int) 2 := ⟨mem_tg (List.mem_of_getElem? (i := 573) (by decide +kernel)) rfl, mem_tg (List.mem_of_getElem? (i := 41) (by decide +kernel)) rfl, mem_tg (List.mem_of_getElem? (i := 576) (by decide +kernel)) rfl, by decide +kernel, by decide +kernel, by decide +kernel⟩
theorem mv_X10_tail : Cond.instanceMethod yX10_tail ∈ tg ∧ Cond.selects yX10_tail.cls yX10_tail yX10_tail ∈ tg := ⟨mem_tg (List.mem_of_getElem? (i := 574) (by decide +kernel)) rfl, mem_tg (List.mem_of_getElem? (i := 575) (by decide +kernel)) rfl⟩
theorem mb_X10_139 : MB RX10 139 yX10_isBell cX10_isBell 1 (some .boolean) 1 := ⟨mem_tg (List.mem_of_getElem? (i := 577) (by decide +kernel)) rfl, mem_tg (List.mem_of_getElem? (i := 41) (by decide +kernel)) rfl, mem_tg (List.mem_of_getElem? (i := 579) (by decide +kernel)) rfl, by decide +kernel, by decide +kernel, by decide +kernel⟩
theorem ms_X10_isBell : Cond.static yX10_isBell ∈ tg := mem_tg (List.mem_of_getElem? (i := 578) (by decide +kernel)) rfl
theorem mb_L_67 : MB RL 67 yX10_quarrel cX10_quarrel 3 (some .int) 1 := ⟨mem_tg (List.mem_of_getElem? (i := 580) (by decide +kernel)) rfl, mem_tg (List.mem_of_getElem? (i := 41) (by decide +kernel)) rfl, mem_tg (List.mem_of_getElem? (i := 583) (by decide +kernel)) rfl, by decide +kernel, by decide +kernel, by decide +kernel⟩
theorem mv_X10_quarrel : Cond.instanceMethod yX10_quarrel ∈ tg ∧ Cond.selects yX10_quarrel.cls yX10_quarrel yX10_quarrel ∈ tg := ⟨mem_tg (List.mem_of_getElem? (i := 581) (by decide +kernel)) rfl, mem_tg (List.mem_of_getElem? (i := 582) (by decide +kernel)) rfl⟩
theorem mb_L_71 : MB RL 71 yX10_quarrels cX10_quarrels 1 (some .int) 0 := ⟨mem_tg (List.mem_of_getElem? (i := 584) (by decide +kernel)) rfl, mem_tg (List.mem_of_getElem? (i := 41) (by decide +kernel)) rfl, mem_tg (List.mem_of_getElem? (i := 587) (by decide +kernel)) rfl, by decide +kernel, by decide +kernel, by decide +kernel⟩
theorem mv_X10_quarrels : Cond.instanceMethod yX10_quarrels ∈ tg ∧ Cond.selects yX10_quarrels.cls yX10_quarrels yX10_quarrels ∈ tg := ⟨mem_tg (List.mem_of_getElem? (i := 585) (by decide +kernel)) rfl, mem_tg (List.mem_of_getElem? (i := 586) (by decide +kernel)) rfl⟩
theorem mb_X10_154 : MB RX10 154 yX8_quarrelTicks cX8_quarrelTicks 5 (some .int) 1 := ⟨mem_tg (List.mem_of_getElem? (i := 588) (by decide +kernel)) rfl, mem_tg (List.mem_of_getElem? (i := 46) (by decide +kernel)) rfl, mem_tg (List.mem_of_getElem? (i := 591) (by decide +kernel)) rfl, by decide +kernel, by decide +kernel, by decide +kernel⟩
theorem mv_X8_quarrelTicks : Cond.instanceMethod yX8_quarrelTicks ∈ tg ∧ Cond.selects yX8_quarrelTicks.cls yX8_quarrelTicks yX8_quarrelTicks ∈ tg := ⟨mem_tg (List.mem_of_getElem? (i := 589) (by decide +kernel)) rfl, mem_tg (List.mem_of_getElem? (i := 590) (by decide +kernel)) rfl⟩
theorem mb_X8_39 : MB RX8 39 yX8_soundLength cX8_soundLength 5 (some .int) 2 := ⟨mem_tg (List.mem_of_getElem? (i := 592) (by decide +kernel)) rfl, mem_tg (List.mem_of_getElem? (i := 46) (by decide +kernel)) rfl, mem_tg (List.mem_of_getElem? (i := 595) (by decide +kernel)) rfl, by decide +kernel, by decide +kernel, by decide +kernel⟩
theorem mv_X8_soundLength : Cond.instanceMethod yX8_soundLength ∈ tg ∧ Cond.selects yX8_soundLength.cls yX8_soundLength yX8_soundLength ∈ tg := ⟨mem_tg (List.mem_of_getElem? (i := 593) (by decide +kernel)) rfl, mem_tg (List.mem_of_getElem? (i := 594) (by decide +kernel)) rfl⟩
theorem mm_X8_33 : Cond.methodLink RX8 33 Lib.Math.min.name ∈ tg := mem_tg (List.mem_of_getElem? (i := 596) (by decide +kernel)) rfl
theorem mb_X8_43 : MB RX8 43 yX8_canQuarrel cX8_canQuarrel 5 (some .boolean) 3 := ⟨mem_tg (List.mem_of_getElem? (i := 597) (by decide +kernel)) rfl, mem_tg (List.mem_of_getElem? (i := 46) (by decide +kernel)) rfl, mem_tg (List.mem_of_getElem? (i := 600) (by decide +kernel)) rfl, by decide +kernel, by decide +kernel, by decide +kernel⟩
theorem mv_X8_canQuarrel : Cond.instanceMethod yX8_canQuarrel ∈ tg ∧ Cond.selects yX8_canQuarrel.cls yX8_canQuarrel yX8_canQuarrel ∈ tg := ⟨mem_tg (List.mem_of_getElem? (i := 599) (by decide +kernel)) rfl, mem_tg (List.mem_of_getElem? (i := 21) (by decide +kernel)) rfl⟩
theorem mb_X8_51 : MB RX8 51 yX5_bellsBetween cX5_bellsBetween 3 (some .int) 2 := ⟨mem_tg (List.mem_of_getElem? (i := 601) (by decide +kernel)) rfl, mem_tg (List.mem_of_getElem? (i := 44) (by decide +kernel)) rfl, mem_tg (List.mem_of_getElem? (i := 523) (by decide +kernel)) rfl, by decide +kernel, by decide +kernel, by decide +kernel⟩
theorem mb_X8_47 : MB RX8 47 yX8_ticksTogether cX8_ticksTogether 6 (some .int) 3 := ⟨mem_tg (List.mem_of_getElem? (i := 602) (by decide +kernel)) rfl, mem_tg (List.mem_of_getElem? (i := 46) (by decide +kernel)) rfl, mem_tg (List.mem_of_getElem? (i := 605) (by decide +kernel)) rfl, by decide +kernel, by decide +kernel, by decide +kernel⟩
theorem mv_X8_ticksTogether : Cond.instanceMethod yX8_ticksTogether ∈ tg ∧ Cond.selects yX8_ticksTogether.cls yX8_ticksTogether yX8_ticksTogether ∈ tg := ⟨mem_tg (List.mem_of_getElem? (i := 604) (by decide +kernel)) rfl, mem_tg (List.mem_of_getElem? (i := 22) (by decide +kernel)) rfl⟩
theorem mm_X8_54 : Cond.methodLink RX8 54 Lib.Math.max.name ∈ tg := mem_tg (List.mem_of_getElem? (i := 606) (by decide +kernel)) rfl
theorem mb_L_75 : MB RL 75 yX10_sounds cX10_sounds 2 (some .int) 1 := ⟨mem_tg (List.mem_of_getElem? (i := 607) (by decide +kernel)) rfl, mem_tg (List.mem_of_getElem? (i := 41) (by decide +kernel)) rfl, mem_tg (List.mem_of_getElem? (i := 610) (by decide +kernel)) rfl, by decide +kernel, by decide +kernel, by decide +kernel⟩
theorem mv_X10_sounds : Cond.instanceMethod yX10_sounds ∈ tg ∧ Cond.selects yX10_sounds.cls yX10_sounds yX10_sounds ∈ tg := ⟨mem_tg (List.mem_of_getElem? (i := 608) (by decide +kernel)) rfl, mem_tg (List.mem_of_getElem? (i := 609) (by decide +kernel)) rfl⟩
theorem mb_X10_158 : MB RX10 158 yX8_soundLength cX8_soundLength 5 (some .int) 2 := ⟨mem_tg (List.mem_of_getElem? (i := 611) (by decide +kernel)) rfl, mem_tg (List.mem_of_getElem? (i := 46) (by decide +kernel)) rfl, mem_tg (List.mem_of_getElem? (i := 595) (by decide +kernel)) rfl, by decide +kernel, by decide +kernel, by decide +kernel⟩
theorem mb_L_79 : MB RL 79 yX10_drum cX10_drum 2 (some .boolean) 1 := ⟨mem_tg (List.mem_of_getElem? (i := 612) (by decide +kernel)) rfl, mem_tg (List.mem_of_getElem? (i := 41) (by decide +kernel)) rfl, mem_tg (List.mem_of_getElem? (i := 615) (by decide +kernel)) rfl, by decide +kernel, by decide +kernel, by decide +kernel⟩
theorem mv_X10_drum : Cond.instanceMethod yX10_drum ∈ tg ∧ Cond.selects yX10_drum.cls yX10_drum yX10_drum ∈ tg := ⟨mem_tg (List.mem_of_getElem? (i := 613) (by decide +kernel)) rfl, mem_tg (List.mem_of_getElem? (i := 614) (by decide +kernel)) rfl⟩
theorem mb_X10_166 : MB RX10 166 yX1_renew cX1_renew 2 none 1 := ⟨mem_tg (List.mem_of_getElem? (i := 616) (by decide +kernel)) rfl, mem_tg (List.mem_of_getElem? (i := 47) (by decide +kernel)) rfl, mem_tg (List.mem_of_getElem? (i := 619) (by decide +kernel)) rfl, by decide +kernel, by decide +kernel, by decide +kernel⟩
theorem mv_X1_renew : Cond.instanceMethod yX1_renew ∈ tg ∧ Cond.selects yX1_renew.cls yX1_renew yX1_renew ∈ tg := ⟨mem_tg (List.mem_of_getElem? (i := 617) (by decide +kernel)) rfl, mem_tg (List.mem_of_getElem? (i := 618) (by decide +kernel)) rfl⟩
theorem mb_L_83 : MB RL 83 yX10_change cX10_change 1 (some .int) 0 := ⟨mem_tg (List.mem_of_getElem? (i := 620) (by decide +kernel)) rfl, mem_tg (List.mem_of_getElem? (i := 41) (by decide +kernel)) rfl, mem_tg (List.mem_of_getElem? (i := 623) (by decide +kernel)) rfl, by decide +kernel, by decide +kernel, by decide +kernel⟩
theorem mv_X10_change : Cond.instanceMethod yX10_change ∈ tg ∧ Cond.selects yX10_change.cls yX10_change yX10_change ∈ tg := ⟨mem_tg (List.mem_of_getElem? (i := 621) (by decide +kernel)) rfl, mem_tg (List.mem_of_getElem? (i := 622) (by decide +kernel)) rfl⟩
theorem mb_X10_171 : MB RX10 171 yX1_fits cX1_fits 2 (some .boolean) 1 := ⟨mem_tg (List.mem_of_getElem? (i := 624) (by decide +kernel)) rfl, mem_tg (List.mem_of_getElem? (i := 47) (by decide +kernel)) rfl, mem_tg (List.mem_of_getElem? (i := 627) (by decide +kernel)) rfl, by decide +kernel, by decide +kernel, by decide +kernel⟩
theorem mv_X1_fits : Cond.instanceMethod yX1_fits ∈ tg ∧ Cond.selects yX1_fits.cls yX1_fits yX1_fits ∈ tg := ⟨mem_tg (List.mem_of_getElem? (i := 625) (by decide +kernel)) rfl, mem_tg (List.mem_of_getElem? (i := 626) (by decide +kernel)) rfl⟩
theorem mb_X10_175 : MB RX10 175 yX9_find cX9_find 6 none 2 := ⟨mem_tg (List.mem_of_getElem? (i := 628) (by decide +kernel)) rfl, mem_tg (List.mem_of_getElem? (i := 51) (by decide +kernel)) rfl, mem_tg (List.mem_of_getElem? (i := 631) (by decide +kernel)) rfl, by decide +kernel, by decide +kernel, by decide +kernel⟩
theorem mv_X9_find : Cond.instanceMethod yX9_find ∈ tg ∧ Cond.selects yX9_find.cls yX9_find yX9_find ∈ tg := ⟨mem_tg (List.mem_of_getElem? (i := 629) (by decide +kernel)) rfl, mem_tg (List.mem_of_getElem? (i := 630) (by decide +kernel)) rfl⟩
theorem mb_X10_182 : MB RX10 182 yX1_pinDown cX1_pinDown 5 none 2 := ⟨mem_tg (List.mem_of_getElem? (i := 632) (by decide +kernel)) rfl, mem_tg (List.mem_of_getElem? (i := 47) (by decide +kernel)) rfl, mem_tg (List.mem_of_getElem? (i := 635) (by decide +kernel)) rfl, by decide +kernel, by decide +kernel, by decide +kernel⟩
theorem mv_X1_pinDown : Cond.instanceMethod yX1_pinDown ∈ tg ∧ Cond.selects yX1_pinDown.cls yX1_pinDown yX1_pinDown ∈ tg := ⟨mem_tg (List.mem_of_getElem? (i := 633) (by decide +kernel)) rfl, mem_tg (List.mem_of_getElem? (i := 634) (by decide +kernel)) rfl⟩
theorem mb_L_87 : MB RL 87 yX10_turn cX10_turn 1 (some .int) 0 := ⟨mem_tg (List.mem_of_getElem? (i := 636) (by decide +kernel)) rfl, mem_tg (List.mem_of_getElem? (i := 41) (by decide +kernel)) rfl, mem_tg (List.mem_of_getElem? (i := 639) (by decide +kernel)) rfl, by decide +kernel, by decide +kernel, by decide +kernel⟩
theorem mv_X10_turn : Cond.instanceMethod yX10_turn ∈ tg ∧ Cond.selects yX10_turn.cls yX10_turn yX10_turn ∈ tg := ⟨mem_tg (List.mem_of_getElem? (i := 637) (by decide +kernel)) rfl, mem_tg (List.mem_of_getElem? (i := 638) (by decide +kernel)) rfl⟩
theorem mb_L_91 : MB RL 91 yX10_pin cX10_pin 3 (some .int) 2 := ⟨mem_tg (List.mem_of_getElem? (i := 640) (by decide +kernel)) rfl, mem_tg (List.mem_of_getElem? (i := 41) (by decide +kernel)) rfl, mem_tg (List.mem_of_getElem? (i := 643) (by decide +kernel)) rfl, by decide +kernel, by decide +kernel, by decide +kernel⟩
theorem mv_X10_pin : Cond.instanceMethod yX10_pin ∈ tg ∧ Cond.selects yX10_pin.cls yX10_pin yX10_pin ∈ tg := ⟨mem_tg (List.mem_of_getElem? (i := 641) (by decide +kernel)) rfl, mem_tg (List.mem_of_getElem? (i := 642) (by decide +kernel)) rfl⟩
theorem mb_X10_195 : MB RX10 195 yX1_hasPin cX1_hasPin 4 (some .boolean) 2 := ⟨mem_tg (List.mem_of_getElem? (i := 644) (by decide +kernel)) rfl, mem_tg (List.mem_of_getElem? (i := 47) (by decide +kernel)) rfl, mem_tg (List.mem_of_getElem? (i := 647) (by decide +kernel)) rfl, by decide +kernel, by decide +kernel, by decide +kernel⟩
theorem mv_X1_hasPin : Cond.instanceMethod yX1_hasPin ∈ tg ∧ Cond.selects yX1_hasPin.cls yX1_hasPin yX1_hasPin ∈ tg := ⟨mem_tg (List.mem_of_getElem? (i := 645) (by decide +kernel)) rfl, mem_tg (List.mem_of_getElem? (i := 646) (by decide +kernel)) rfl⟩
theorem mb_L_95 : MB RL 95 yX10_pins cX10_pins 1 (some .int) 0 := ⟨mem_tg (List.mem_of_getElem? (i := 648) (by decide +kernel)) rfl, mem_tg (List.mem_of_getElem? (i := 41) (by decide +kernel)) rfl, mem_tg (List.mem_of_getElem? (i := 651) (by decide +kernel)) rfl, by decide +kernel, by decide +kernel, by decide +kernel⟩
theorem mv_X10_pins : Cond.instanceMethod yX10_pins ∈ tg ∧ Cond.selects yX10_pins.cls yX10_pins yX10_pins ∈ tg := ⟨mem_tg (List.mem_of_getElem? (i := 649) (by decide +kernel)) rfl, mem_tg (List.mem_of_getElem? (i := 650) (by decide +kernel)) rfl⟩
theorem mb_L_99 : MB RL 99 yX10_play cX10_play 2 (some .int) 1 := ⟨mem_tg (List.mem_of_getElem? (i := 652) (by decide +kernel)) rfl, mem_tg (List.mem_of_getElem? (i := 41) (by decide +kernel)) rfl, mem_tg (List.mem_of_getElem? (i := 655) (by decide +kernel)) rfl, by decide +kernel, by decide +kernel, by decide +kernel⟩
theorem mv_X10_play : Cond.instanceMethod yX10_play ∈ tg ∧ Cond.selects yX10_play.cls yX10_play yX10_play ∈ tg := ⟨mem_tg (List.mem_of_getElem? (i := 653) (by decide +kernel)) rfl, mem_tg (List.mem_of_getElem? (i := 654) (by decide +kernel)) rfl⟩
theorem mb_X10_204 : MB RX10 204 yX0_playByFists cX0_playByFists 5 (some .int) 2 := ⟨mem_tg (List.mem_of_getElem? (i := 656) (by decide +kernel)) rfl, mem_tg (List.mem_of_getElem? (i := 48) (by decide +kernel)) rfl, mem_tg (List.mem_of_getElem? (i := 659) (by decide +kernel)) rfl, by decide +kernel, by decide +kernel, by decide +kernel⟩
theorem mv_X0_playByFists : Cond.instanceMethod yX0_playByFists ∈ tg ∧ Cond.selects yX0_playByFists.cls yX0_playByFists yX0_playByFists ∈ tg := ⟨mem_tg (List.mem_of_getElem? (i := 657) (by decide +kernel)) rfl, mem_tg (List.mem_of_getElem? (i := 658) (by decide +kernel)) rfl⟩
theorem mb_X10_210 : MB RX10 210 yX0_playByDrum cX0_playByDrum 3 (some .int) 1 := ⟨mem_tg (List.mem_of_getElem? (i := 660) (by decide +kernel)) rfl, mem_tg (List.mem_of_getElem? (i := 48) (by decide +kernel)) rfl, mem_tg (List.mem_of_getElem? (i := 663) (by decide +kernel)) rfl, by decide +kernel, by decide +kernel, by decide +kernel⟩
theorem mv_X0_playByDrum : Cond.instanceMethod yX0_playByDrum ∈ tg ∧ Cond.selects yX0_playByDrum.cls yX0_playByDrum yX0_playByDrum ∈ tg := ⟨mem_tg (List.mem_of_getElem? (i := 661) (by decide +kernel)) rfl, mem_tg (List.mem_of_getElem? (i := 662) (by decide +kernel)) rfl⟩
theorem mb_L_103 : MB RL 103 yX10_strikes cX10_strikes 2 (some .long) 1 := ⟨mem_tg (List.mem_of_getElem? (i := 664) (by decide +kernel)) rfl, mem_tg (List.mem_of_getElem? (i := 41) (by decide +kernel)) rfl, mem_tg (List.mem_of_getElem? (i := 667) (by decide +kernel)) rfl, by decide +kernel, by decide +kernel, by decide +kernel⟩
theorem mv_X10_strikes : Cond.instanceMethod yX10_strikes ∈ tg ∧ Cond.selects yX10_strikes.cls yX10_strikes yX10_strikes ∈ tg := ⟨mem_tg (List.mem_of_getElem? (i := 665) (by decide +kernel)) rfl, mem_tg (List.mem_of_getElem? (i := 666) (by decide +kernel)) rfl⟩
theorem mb_L_108 : MB RL 108 yX10_mend cX10_mend 4 (some .long) 1 := ⟨mem_tg (List.mem_of_getElem? (i := 669) (by decide +kernel)) rfl, mem_tg (List.mem_of_getElem? (i := 41) (by decide +kernel)) rfl, mem_tg (List.mem_of_getElem? (i := 672) (by decide +kernel)) rfl, by decide +kernel, by decide +kernel, by decide +kernel⟩
theorem mv_X10_mend : Cond.instanceMethod yX10_mend ∈ tg ∧ Cond.selects yX10_mend.cls yX10_mend yX10_mend ∈ tg := ⟨mem_tg (List.mem_of_getElem? (i := 670) (by decide +kernel)) rfl, mem_tg (List.mem_of_getElem? (i := 671) (by decide +kernel)) rfl⟩
theorem mb_L_112 : MB RL 112 yX10_worn cX10_worn 2 (some .int) 1 := ⟨mem_tg (List.mem_of_getElem? (i := 673) (by decide +kernel)) rfl, mem_tg (List.mem_of_getElem? (i := 41) (by decide +kernel)) rfl, mem_tg (List.mem_of_getElem? (i := 676) (by decide +kernel)) rfl, by decide +kernel, by decide +kernel, by decide +kernel⟩
theorem mv_X10_worn : Cond.instanceMethod yX10_worn ∈ tg ∧ Cond.selects yX10_worn.cls yX10_worn yX10_worn ∈ tg := ⟨mem_tg (List.mem_of_getElem? (i := 674) (by decide +kernel)) rfl, mem_tg (List.mem_of_getElem? (i := 675) (by decide +kernel)) rfl⟩
theorem mb_X10_220 : MB RX10 220 yX0_wornAt cX0_wornAt 4 (some .int) 1 := ⟨mem_tg (List.mem_of_getElem? (i := 677) (by decide +kernel)) rfl, mem_tg (List.mem_of_getElem? (i := 48) (by decide +kernel)) rfl, mem_tg (List.mem_of_getElem? (i := 680) (by decide +kernel)) rfl, by decide +kernel, by decide +kernel, by decide +kernel⟩
theorem mv_X0_wornAt : Cond.instanceMethod yX0_wornAt ∈ tg ∧ Cond.selects yX0_wornAt.cls yX0_wornAt yX0_wornAt ∈ tg := ⟨mem_tg (List.mem_of_getElem? (i := 678) (by decide +kernel)) rfl, mem_tg (List.mem_of_getElem? (i := 679) (by decide +kernel)) rfl⟩
theorem mb_L_116 : MB RL 116 yX10_image cX10_image 3 (some .boolean) 1 := ⟨mem_tg (List.mem_of_getElem? (i := 681) (by decide +kernel)) rfl, mem_tg (List.mem_of_getElem? (i := 41) (by decide +kernel)) rfl, mem_tg (List.mem_of_getElem? (i := 684) (by decide +kernel)) rfl, by decide +kernel, by decide +kernel, by decide +kernel⟩
theorem mv_X10_image : Cond.instanceMethod yX10_image ∈ tg ∧ Cond.selects yX10_image.cls yX10_image yX10_image ∈ tg := ⟨mem_tg (List.mem_of_getElem? (i := 682) (by decide +kernel)) rfl, mem_tg (List.mem_of_getElem? (i := 683) (by decide +kernel)) rfl⟩
theorem mb_X10_224 : MB RX10 224 yX2_copyFrom cX2_copyFrom 2 none 1 := ⟨mem_tg (List.mem_of_getElem? (i := 685) (by decide +kernel)) rfl, mem_tg (List.mem_of_getElem? (i := 45) (by decide +kernel)) rfl, mem_tg (List.mem_of_getElem? (i := 688) (by decide +kernel)) rfl, by decide +kernel, by decide +kernel, by decide +kernel⟩
theorem mv_X2_copyFrom : Cond.instanceMethod yX2_copyFrom ∈ tg ∧ Cond.selects yX2_copyFrom.cls yX2_copyFrom yX2_copyFrom ∈ tg := ⟨mem_tg (List.mem_of_getElem? (i := 686) (by decide +kernel)) rfl, mem_tg (List.mem_of_getElem? (i := 687) (by decide +kernel)) rfl⟩
theorem mb_X2_52 : MB RX2 52 yX5_copyFrom cX5_copyFrom 2 none 1 := ⟨mem_tg (List.mem_of_getElem? (i := 689) (by decide +kernel)) rfl, mem_tg (List.mem_of_getElem? (i := 44) (by decide +kernel)) rfl, mem_tg (List.mem_of_getElem? (i := 474) (by decide +kernel)) rfl, by decide +kernel, by decide +kernel, by decide +kernel⟩
theorem mb_X2_56 : MB RX2 56 yX8_copyFrom cX8_copyFrom 2 none 1 := ⟨mem_tg (List.mem_of_getElem? (i := 690) (by decide +kernel)) rfl, mem_tg (List.mem_of_getElem? (i := 46) (by decide +kernel)) rfl, mem_tg (List.mem_of_getElem? (i := 693) (by decide +kernel)) rfl, by decide +kernel, by decide +kernel, by decide +kernel⟩
theorem mv_X8_copyFrom : Cond.instanceMethod yX8_copyFrom ∈ tg ∧ Cond.selects yX8_copyFrom.cls yX8_copyFrom yX8_copyFrom ∈ tg := ⟨mem_tg (List.mem_of_getElem? (i := 691) (by decide +kernel)) rfl, mem_tg (List.mem_of_getElem? (i := 692) (by decide +kernel)) rfl⟩
theorem cp_X8_57 : Cond.methodLink RX8 57 arraycopyName ∈ tg := mem_tg (List.mem_of_getElem? (i := 694) (by decide +kernel)) rfl
theorem mb_X2_59 : MB RX2 59 yX1_copyFrom cX1_copyFrom 2 none 1 := ⟨mem_tg (List.mem_of_getElem? (i := 695) (by decide +kernel)) rfl, mem_tg (List.mem_of_getElem? (i := 47) (by decide +kernel)) rfl, mem_tg (List.mem_of_getElem? (i := 698) (by decide +kernel)) rfl, by decide +kernel, by decide +kernel, by decide +kernel⟩
theorem mv_X1_copyFrom : Cond.instanceMethod yX1_copyFrom ∈ tg ∧ Cond.selects yX1_copyFrom.cls yX1_copyFrom yX1_copyFrom ∈ tg := ⟨mem_tg (List.mem_of_getElem? (i := 696) (by decide +kernel)) rfl, mem_tg (List.mem_of_getElem? (i := 697) (by decide +kernel)) rfl⟩
theorem cp_X1_37 : Cond.methodLink RX1 37 arraycopyName ∈ tg := mem_tg (List.mem_of_getElem? (i := 699) (by decide +kernel)) rfl
theorem mb_X2_62 : MB RX2 62 yX0_copyFrom cX0_copyFrom 2 none 1 := ⟨mem_tg (List.mem_of_getElem? (i := 700) (by decide +kernel)) rfl, mem_tg (List.mem_of_getElem? (i := 48) (by decide +kernel)) rfl, mem_tg (List.mem_of_getElem? (i := 703) (by decide +kernel)) rfl, by decide +kernel, by decide +kernel, by decide +kernel⟩
theorem mv_X0_copyFrom : Cond.instanceMethod yX0_copyFrom ∈ tg ∧ Cond.selects yX0_copyFrom.cls yX0_copyFrom yX0_copyFrom ∈ tg := ⟨mem_tg (List.mem_of_getElem? (i := 701) (by decide +kernel)) rfl, mem_tg (List.mem_of_getElem? (i := 702) (by decide +kernel)) rfl⟩
theorem cp_X0_36 : Cond.methodLink RX0 36 arraycopyName ∈ tg := mem_tg (List.mem_of_getElem? (i := 704) (by decide +kernel)) rfl
theorem mb_L_120 : MB RL 120 yX10_back cX10_back 3 (some .boolean) 1 := ⟨mem_tg (List.mem_of_getElem? (i := 705) (by decide +kernel)) rfl, mem_tg (List.mem_of_getElem? (i := 41) (by decide +kernel)) rfl, mem_tg (List.mem_of_getElem? (i := 708) (by decide +kernel)) rfl, by decide +kernel, by decide +kernel, by decide +kernel⟩
theorem mv_X10_back : Cond.instanceMethod yX10_back ∈ tg ∧ Cond.selects yX10_back.cls yX10_back yX10_back ∈ tg := ⟨mem_tg (List.mem_of_getElem? (i := 706) (by decide +kernel)) rfl, mem_tg (List.mem_of_getElem? (i := 707) (by decide +kernel)) rfl⟩
theorem mb_L_12 : MB RL 12 yX11_init cX11_init 2 none 0 := ⟨mem_tg (List.mem_of_getElem? (i := 711) (by decide +kernel)) rfl, mem_tg (List.mem_of_getElem? (i := 52) (by decide +kernel)) rfl, mem_tg (List.mem_of_getElem? (i := 713) (by decide +kernel)) rfl, by decide +kernel, by decide +kernel, by decide +kernel⟩
theorem mi_X11_init : Cond.instanceMethod yX11_init ∈ tg ∧ yX11_init.name = "<init>" := ⟨mem_tg (List.mem_of_getElem? (i := 712) (by decide +kernel)) rfl, rfl⟩
theorem ob_X11_1 : Cond.methodLink RX11 1 objectInit ∈ tg := mem_tg (List.mem_of_getElem? (i := 714) (by decide +kernel)) rfl
theorem mb_L_119 : MB RL 119 yX11_image cX11_image 3 (some .boolean) 1 := ⟨mem_tg (List.mem_of_getElem? (i := 787) (by decide +kernel)) rfl, mem_tg (List.mem_of_getElem? (i := 52) (by decide +kernel)) rfl, mem_tg (List.mem_of_getElem? (i := 790) (by decide +kernel)) rfl, by decide +kernel, by decide +kernel, by decide +kernel⟩
theorem mv_X11_image : Cond.instanceMethod yX11_image ∈ tg ∧ Cond.selects yX11_image.cls yX11_image yX11_image ∈ tg := ⟨mem_tg (List.mem_of_getElem? (i := 788) (by decide +kernel)) rfl, mem_tg (List.mem_of_getElem? (i := 789) (by decide +kernel)) rfl⟩
theorem mb_L_123 : MB RL 123 yX11_back cX11_back 3 (some .boolean) 1 := ⟨mem_tg (List.mem_of_getElem? (i := 791) (by decide +kernel)) rfl, mem_tg (List.mem_of_getElem? (i := 52) (by decide +kernel)) rfl, mem_tg (List.mem_of_getElem? (i := 794) (by decide +kernel)) rfl, by decide +kernel, by decide +kernel, by decide +kernel⟩
theorem mv_X11_back : Cond.instanceMethod yX11_back ∈ tg ∧ Cond.selects yX11_back.cls yX11_back yX11_back ∈ tg := ⟨mem_tg (List.mem_of_getElem? (i := 792) (by decide +kernel)) rfl, mem_tg (List.mem_of_getElem? (i := 793) (by decide +kernel)) rfl⟩
theorem mb_L_17 : MB RL 17 yX11_feed cX11_feed 8 (some .int) 5 := ⟨mem_tg (List.mem_of_getElem? (i := 795) (by decide +kernel)) rfl, mem_tg (List.mem_of_getElem? (i := 52) (by decide +kernel)) rfl, mem_tg (List.mem_of_getElem? (i := 798) (by decide +kernel)) rfl, by decide +kernel, by decide +kernel, by decide +kernel⟩
theorem mv_X11_feed : Cond.instanceMethod yX11_feed ∈ tg ∧ Cond.selects yX11_feed.cls yX11_feed yX11_feed ∈ tg := ⟨mem_tg (List.mem_of_getElem? (i := 796) (by decide +kernel)) rfl, mem_tg (List.mem_of_getElem? (i := 797) (by decide +kernel)) rfl⟩
theorem mb_L_22 : MB RL 22 yX11_end cX11_end 2 (some .boolean) 1 := ⟨mem_tg (List.mem_of_getElem? (i := 799) (by decide +kernel)) rfl, mem_tg (List.mem_of_getElem? (i := 52) (by decide +kernel)) rfl, mem_tg (List.mem_of_getElem? (i := 802) (by decide +kernel)) rfl, by decide +kernel, by decide +kernel, by decide +kernel⟩
theorem mv_X11_end : Cond.instanceMethod yX11_end ∈ tg ∧ Cond.selects yX11_end.cls yX11_end yX11_end ∈ tg := ⟨mem_tg (List.mem_of_getElem? (i := 800) (by decide +kernel)) rfl, mem_tg (List.mem_of_getElem? (i := 801) (by decide +kernel)) rfl⟩
theorem mb_L_27 : MB RL 27 yX11_score cX11_score 2 (some .int) 0 := ⟨mem_tg (List.mem_of_getElem? (i := 803) (by decide +kernel)) rfl, mem_tg (List.mem_of_getElem? (i := 52) (by decide +kernel)) rfl, mem_tg (List.mem_of_getElem? (i := 806) (by decide +kernel)) rfl, by decide +kernel, by decide +kernel, by decide +kernel⟩
theorem mv_X11_score : Cond.instanceMethod yX11_score ∈ tg ∧ Cond.selects yX11_score.cls yX11_score yX11_score ∈ tg := ⟨mem_tg (List.mem_of_getElem? (i := 804) (by decide +kernel)) rfl, mem_tg (List.mem_of_getElem? (i := 805) (by decide +kernel)) rfl⟩
theorem mb_X11_68 : MB RX11 68 yX11_next cX11_next 1 (some .int) 0 := ⟨mem_tg (List.mem_of_getElem? (i := 807) (by decide +kernel)) rfl, mem_tg (List.mem_of_getElem? (i := 52) (by decide +kernel)) rfl, mem_tg (List.mem_of_getElem? (i := 810) (by decide +kernel)) rfl, by decide +kernel, by decide +kernel, by decide +kernel⟩
theorem mv_X11_next : Cond.instanceMethod yX11_next ∈ tg ∧ Cond.selects yX11_next.cls yX11_next yX11_next ∈ tg := ⟨mem_tg (List.mem_of_getElem? (i := 809) (by decide +kernel)) rfl, mem_tg (List.mem_of_getElem? (i := 23) (by decide +kernel)) rfl⟩
theorem mb_X11_79 : MB RX11 79 yX11_isDigit cX11_isDigit 1 (some .boolean) 1 := ⟨mem_tg (List.mem_of_getElem? (i := 811) (by decide +kernel)) rfl, mem_tg (List.mem_of_getElem? (i := 52) (by decide +kernel)) rfl, mem_tg (List.mem_of_getElem? (i := 813) (by decide +kernel)) rfl, by decide +kernel, by decide +kernel, by decide +kernel⟩
theorem ms_X11_isDigit : Cond.static yX11_isDigit ∈ tg := mem_tg (List.mem_of_getElem? (i := 812) (by decide +kernel)) rfl
theorem mb_X11_111 : MB RX11 111 yX11_group cX11_group 2 none 0 := ⟨mem_tg (List.mem_of_getElem? (i := 814) (by decide +kernel)) rfl, mem_tg (List.mem_of_getElem? (i := 52) (by decide +kernel)) rfl, mem_tg (List.mem_of_getElem? (i := 817) (by decide +kernel)) rfl, by decide +kernel, by decide +kernel, by decide +kernel⟩
theorem mv_X11_group : Cond.instanceMethod yX11_group ∈ tg ∧ Cond.selects yX11_group.cls yX11_group yX11_group ∈ tg := ⟨mem_tg (List.mem_of_getElem? (i := 816) (by decide +kernel)) rfl, mem_tg (List.mem_of_getElem? (i := 24) (by decide +kernel)) rfl⟩
theorem mb_X11_83 : MB RX11 83 yX11_number cX11_number 4 (some .int) 2 := ⟨mem_tg (List.mem_of_getElem? (i := 818) (by decide +kernel)) rfl, mem_tg (List.mem_of_getElem? (i := 52) (by decide +kernel)) rfl, mem_tg (List.mem_of_getElem? (i := 821) (by decide +kernel)) rfl, by decide +kernel, by decide +kernel, by decide +kernel⟩
theorem mv_X11_number : Cond.instanceMethod yX11_number ∈ tg ∧ Cond.selects yX11_number.cls yX11_number yX11_number ∈ tg := ⟨mem_tg (List.mem_of_getElem? (i := 820) (by decide +kernel)) rfl, mem_tg (List.mem_of_getElem? (i := 25) (by decide +kernel)) rfl⟩
theorem mb_X11_72 : MB RX11 72 yX11_fail cX11_fail 3 none 2 := ⟨mem_tg (List.mem_of_getElem? (i := 822) (by decide +kernel)) rfl, mem_tg (List.mem_of_getElem? (i := 52) (by decide +kernel)) rfl, mem_tg (List.mem_of_getElem? (i := 825) (by decide +kernel)) rfl, by decide +kernel, by decide +kernel, by decide +kernel⟩
theorem mv_X11_fail : Cond.instanceMethod yX11_fail ∈ tg ∧ Cond.selects yX11_fail.cls yX11_fail yX11_fail ∈ tg := ⟨mem_tg (List.mem_of_getElem? (i := 824) (by decide +kernel)) rfl, mem_tg (List.mem_of_getElem? (i := 26) (by decide +kernel)) rfl⟩
theorem mb_X11_104 : MB RX11 104 yX11_sign cX11_sign 2 none 1 := ⟨mem_tg (List.mem_of_getElem? (i := 826) (by decide +kernel)) rfl, mem_tg (List.mem_of_getElem? (i := 52) (by decide +kernel)) rfl, mem_tg (List.mem_of_getElem? (i := 829) (by decide +kernel)) rfl, by decide +kernel, by decide +kernel, by decide +kernel⟩
theorem mv_X11_sign : Cond.instanceMethod yX11_sign ∈ tg ∧ Cond.selects yX11_sign.cls yX11_sign yX11_sign ∈ tg := ⟨mem_tg (List.mem_of_getElem? (i := 828) (by decide +kernel)) rfl, mem_tg (List.mem_of_getElem? (i := 27) (by decide +kernel)) rfl⟩
theorem mb_X11_114 : MB RX11 114 yX11_ends cX11_ends 1 none 0 := ⟨mem_tg (List.mem_of_getElem? (i := 830) (by decide +kernel)) rfl, mem_tg (List.mem_of_getElem? (i := 52) (by decide +kernel)) rfl, mem_tg (List.mem_of_getElem? (i := 833) (by decide +kernel)) rfl, by decide +kernel, by decide +kernel, by decide +kernel⟩
theorem mv_X11_ends : Cond.instanceMethod yX11_ends ∈ tg ∧ Cond.selects yX11_ends.cls yX11_ends yX11_ends ∈ tg := ⟨mem_tg (List.mem_of_getElem? (i := 832) (by decide +kernel)) rfl, mem_tg (List.mem_of_getElem? (i := 28) (by decide +kernel)) rfl⟩
theorem mb_X11_117 : MB RX11 117 yX11_item cX11_item 6 none 0 := ⟨mem_tg (List.mem_of_getElem? (i := 834) (by decide +kernel)) rfl, mem_tg (List.mem_of_getElem? (i := 52) (by decide +kernel)) rfl, mem_tg (List.mem_of_getElem? (i := 837) (by decide +kernel)) rfl, by decide +kernel, by decide +kernel, by decide +kernel⟩
theorem mv_X11_item : Cond.instanceMethod yX11_item ∈ tg ∧ Cond.selects yX11_item.cls yX11_item yX11_item ∈ tg := ⟨mem_tg (List.mem_of_getElem? (i := 836) (by decide +kernel)) rfl, mem_tg (List.mem_of_getElem? (i := 29) (by decide +kernel)) rfl⟩
theorem mb_X11_96 : MB RX11 96 yX11_length cX11_length 4 (some .int) 1 := ⟨mem_tg (List.mem_of_getElem? (i := 838) (by decide +kernel)) rfl, mem_tg (List.mem_of_getElem? (i := 52) (by decide +kernel)) rfl, mem_tg (List.mem_of_getElem? (i := 841) (by decide +kernel)) rfl, by decide +kernel, by decide +kernel, by decide +kernel⟩
theorem mv_X11_length : Cond.instanceMethod yX11_length ∈ tg ∧ Cond.selects yX11_length.cls yX11_length yX11_length ∈ tg := ⟨mem_tg (List.mem_of_getElem? (i := 840) (by decide +kernel)) rfl, mem_tg (List.mem_of_getElem? (i := 30) (by decide +kernel)) rfl⟩
theorem mb_X11_100 : MB RX11 100 yX11_strikesHere cX11_strikesHere 5 none 3 := ⟨mem_tg (List.mem_of_getElem? (i := 842) (by decide +kernel)) rfl, mem_tg (List.mem_of_getElem? (i := 52) (by decide +kernel)) rfl, mem_tg (List.mem_of_getElem? (i := 845) (by decide +kernel)) rfl, by decide +kernel, by decide +kernel, by decide +kernel⟩
theorem mv_X11_strikesHere : Cond.instanceMethod yX11_strikesHere ∈ tg ∧ Cond.selects yX11_strikesHere.cls yX11_strikesHere yX11_strikesHere ∈ tg := ⟨mem_tg (List.mem_of_getElem? (i := 844) (by decide +kernel)) rfl, mem_tg (List.mem_of_getElem? (i := 31) (by decide +kernel)) rfl⟩
theorem mb_L_32 : MB RL 32 yX11_fault cX11_fault 2 (some .int) 1 := ⟨mem_tg (List.mem_of_getElem? (i := 846) (by decide +kernel)) rfl, mem_tg (List.mem_of_getElem? (i := 52) (by decide +kernel)) rfl, mem_tg (List.mem_of_getElem? (i := 849) (by decide +kernel)) rfl, by decide +kernel, by decide +kernel, by decide +kernel⟩
theorem mv_X11_fault : Cond.instanceMethod yX11_fault ∈ tg ∧ Cond.selects yX11_fault.cls yX11_fault yX11_fault ∈ tg := ⟨mem_tg (List.mem_of_getElem? (i := 847) (by decide +kernel)) rfl, mem_tg (List.mem_of_getElem? (i := 848) (by decide +kernel)) rfl⟩
theorem mb_L_37 : MB RL 37 yX11_strike cX11_strike 3 (some .int) 2 := ⟨mem_tg (List.mem_of_getElem? (i := 850) (by decide +kernel)) rfl, mem_tg (List.mem_of_getElem? (i := 52) (by decide +kernel)) rfl, mem_tg (List.mem_of_getElem? (i := 853) (by decide +kernel)) rfl, by decide +kernel, by decide +kernel, by decide +kernel⟩
theorem mv_X11_strike : Cond.instanceMethod yX11_strike ∈ tg ∧ Cond.selects yX11_strike.cls yX11_strike yX11_strike ∈ tg := ⟨mem_tg (List.mem_of_getElem? (i := 851) (by decide +kernel)) rfl, mem_tg (List.mem_of_getElem? (i := 852) (by decide +kernel)) rfl⟩
theorem mb_L_46 : MB RL 46 yX11_fists cX11_fists 3 (some .boolean) 2 := ⟨mem_tg (List.mem_of_getElem? (i := 854) (by decide +kernel)) rfl, mem_tg (List.mem_of_getElem? (i := 52) (by decide +kernel)) rfl, mem_tg (List.mem_of_getElem? (i := 857) (by decide +kernel)) rfl, by decide +kernel, by decide +kernel, by decide +kernel⟩
theorem mv_X11_fists : Cond.instanceMethod yX11_fists ∈ tg ∧ Cond.selects yX11_fists.cls yX11_fists yX11_fists ∈ tg := ⟨mem_tg (List.mem_of_getElem? (i := 855) (by decide +kernel)) rfl, mem_tg (List.mem_of_getElem? (i := 856) (by decide +kernel)) rfl⟩
theorem mb_L_50 : MB RL 50 yX11_cost cX11_cost 1 (some .int) 0 := ⟨mem_tg (List.mem_of_getElem? (i := 858) (by decide +kernel)) rfl, mem_tg (List.mem_of_getElem? (i := 52) (by decide +kernel)) rfl, mem_tg (List.mem_of_getElem? (i := 861) (by decide +kernel)) rfl, by decide +kernel, by decide +kernel, by decide +kernel⟩
theorem mv_X11_cost : Cond.instanceMethod yX11_cost ∈ tg ∧ Cond.selects yX11_cost.cls yX11_cost yX11_cost ∈ tg := ⟨mem_tg (List.mem_of_getElem? (i := 859) (by decide +kernel)) rfl, mem_tg (List.mem_of_getElem? (i := 860) (by decide +kernel)) rfl⟩
theorem mb_X11_143 : MB RX11 143 yX11_sets cX11_sets 6 (some .int) 0 := ⟨mem_tg (List.mem_of_getElem? (i := 862) (by decide +kernel)) rfl, mem_tg (List.mem_of_getElem? (i := 52) (by decide +kernel)) rfl, mem_tg (List.mem_of_getElem? (i := 865) (by decide +kernel)) rfl, by decide +kernel, by decide +kernel, by decide +kernel⟩
theorem mv_X11_sets : Cond.instanceMethod yX11_sets ∈ tg ∧ Cond.selects yX11_sets.cls yX11_sets yX11_sets ∈ tg := ⟨mem_tg (List.mem_of_getElem? (i := 864) (by decide +kernel)) rfl, mem_tg (List.mem_of_getElem? (i := 32) (by decide +kernel)) rfl⟩
theorem mb_X11_140 : MB RX11 140 yX11_weighs cX11_weighs 10 (some .int) 2 := ⟨mem_tg (List.mem_of_getElem? (i := 866) (by decide +kernel)) rfl, mem_tg (List.mem_of_getElem? (i := 52) (by decide +kernel)) rfl, mem_tg (List.mem_of_getElem? (i := 869) (by decide +kernel)) rfl, by decide +kernel, by decide +kernel, by decide +kernel⟩
theorem mv_X11_weighs : Cond.instanceMethod yX11_weighs ∈ tg ∧ Cond.selects yX11_weighs.cls yX11_weighs yX11_weighs ∈ tg := ⟨mem_tg (List.mem_of_getElem? (i := 868) (by decide +kernel)) rfl, mem_tg (List.mem_of_getElem? (i := 33) (by decide +kernel)) rfl⟩
theorem mb_X11_129 : MB RX11 129 yX11_place cX11_place 4 (some .int) 3 := ⟨mem_tg (List.mem_of_getElem? (i := 870) (by decide +kernel)) rfl, mem_tg (List.mem_of_getElem? (i := 52) (by decide +kernel)) rfl, mem_tg (List.mem_of_getElem? (i := 873) (by decide +kernel)) rfl, by decide +kernel, by decide +kernel, by decide +kernel⟩
theorem mv_X11_place : Cond.instanceMethod yX11_place ∈ tg ∧ Cond.selects yX11_place.cls yX11_place yX11_place ∈ tg := ⟨mem_tg (List.mem_of_getElem? (i := 872) (by decide +kernel)) rfl, mem_tg (List.mem_of_getElem? (i := 34) (by decide +kernel)) rfl⟩
theorem mb_X11_132 : MB RX11 132 yX11_costOf cX11_costOf 7 (some .int) 6 := ⟨mem_tg (List.mem_of_getElem? (i := 875) (by decide +kernel)) rfl, mem_tg (List.mem_of_getElem? (i := 52) (by decide +kernel)) rfl, mem_tg (List.mem_of_getElem? (i := 878) (by decide +kernel)) rfl, by decide +kernel, by decide +kernel, by decide +kernel⟩
theorem mv_X11_costOf : Cond.instanceMethod yX11_costOf ∈ tg ∧ Cond.selects yX11_costOf.cls yX11_costOf yX11_costOf ∈ tg := ⟨mem_tg (List.mem_of_getElem? (i := 877) (by decide +kernel)) rfl, mem_tg (List.mem_of_getElem? (i := 35) (by decide +kernel)) rfl⟩
theorem mb_X11_121 : MB RX11 121 yX11_isCrossed cX11_isCrossed 3 (some .boolean) 2 := ⟨mem_tg (List.mem_of_getElem? (i := 879) (by decide +kernel)) rfl, mem_tg (List.mem_of_getElem? (i := 52) (by decide +kernel)) rfl, mem_tg (List.mem_of_getElem? (i := 882) (by decide +kernel)) rfl, by decide +kernel, by decide +kernel, by decide +kernel⟩
theorem mv_X11_isCrossed : Cond.instanceMethod yX11_isCrossed ∈ tg ∧ Cond.selects yX11_isCrossed.cls yX11_isCrossed yX11_isCrossed ∈ tg := ⟨mem_tg (List.mem_of_getElem? (i := 881) (by decide +kernel)) rfl, mem_tg (List.mem_of_getElem? (i := 36) (by decide +kernel)) rfl⟩
theorem mb_X11_125 : MB RX11 125 yX11_moves cX11_moves 6 (some .int) 3 := ⟨mem_tg (List.mem_of_getElem? (i := 883) (by decide +kernel)) rfl, mem_tg (List.mem_of_getElem? (i := 52) (by decide +kernel)) rfl, mem_tg (List.mem_of_getElem? (i := 886) (by decide +kernel)) rfl, by decide +kernel, by decide +kernel, by decide +kernel⟩
theorem mv_X11_moves : Cond.instanceMethod yX11_moves ∈ tg ∧ Cond.selects yX11_moves.cls yX11_moves yX11_moves ∈ tg := ⟨mem_tg (List.mem_of_getElem? (i := 885) (by decide +kernel)) rfl, mem_tg (List.mem_of_getElem? (i := 37) (by decide +kernel)) rfl⟩
theorem mb_X11_136 : MB RX11 136 yX11_behind cX11_behind 5 (some .int) 4 := ⟨mem_tg (List.mem_of_getElem? (i := 887) (by decide +kernel)) rfl, mem_tg (List.mem_of_getElem? (i := 52) (by decide +kernel)) rfl, mem_tg (List.mem_of_getElem? (i := 890) (by decide +kernel)) rfl, by decide +kernel, by decide +kernel, by decide +kernel⟩
theorem mv_X11_behind : Cond.instanceMethod yX11_behind ∈ tg ∧ Cond.selects yX11_behind.cls yX11_behind yX11_behind ∈ tg := ⟨mem_tg (List.mem_of_getElem? (i := 889) (by decide +kernel)) rfl, mem_tg (List.mem_of_getElem? (i := 38) (by decide +kernel)) rfl⟩
theorem mb_L_54 : MB RL 54 yX11_need cX11_need 2 (some .int) 0 := ⟨mem_tg (List.mem_of_getElem? (i := 891) (by decide +kernel)) rfl, mem_tg (List.mem_of_getElem? (i := 52) (by decide +kernel)) rfl, mem_tg (List.mem_of_getElem? (i := 894) (by decide +kernel)) rfl, by decide +kernel, by decide +kernel, by decide +kernel⟩
theorem mv_X11_need : Cond.instanceMethod yX11_need ∈ tg ∧ Cond.selects yX11_need.cls yX11_need yX11_need ∈ tg := ⟨mem_tg (List.mem_of_getElem? (i := 892) (by decide +kernel)) rfl, mem_tg (List.mem_of_getElem? (i := 893) (by decide +kernel)) rfl⟩
theorem mb_L_58 : MB RL 58 yX11_by cX11_by 2 (some .int) 1 := ⟨mem_tg (List.mem_of_getElem? (i := 895) (by decide +kernel)) rfl, mem_tg (List.mem_of_getElem? (i := 52) (by decide +kernel)) rfl, mem_tg (List.mem_of_getElem? (i := 898) (by decide +kernel)) rfl, by decide +kernel, by decide +kernel, by decide +kernel⟩
theorem mv_X11_by : Cond.instanceMethod yX11_by ∈ tg ∧ Cond.selects yX11_by.cls yX11_by yX11_by ∈ tg := ⟨mem_tg (List.mem_of_getElem? (i := 896) (by decide +kernel)) rfl, mem_tg (List.mem_of_getElem? (i := 897) (by decide +kernel)) rfl⟩
theorem mb_L_62 : MB RL 62 yX11_way cX11_way 2 (some .int) 1 := ⟨mem_tg (List.mem_of_getElem? (i := 899) (by decide +kernel)) rfl, mem_tg (List.mem_of_getElem? (i := 52) (by decide +kernel)) rfl, mem_tg (List.mem_of_getElem? (i := 902) (by decide +kernel)) rfl, by decide +kernel, by decide +kernel, by decide +kernel⟩
theorem mv_X11_way : Cond.instanceMethod yX11_way ∈ tg ∧ Cond.selects yX11_way.cls yX11_way yX11_way ∈ tg := ⟨mem_tg (List.mem_of_getElem? (i := 900) (by decide +kernel)) rfl, mem_tg (List.mem_of_getElem? (i := 901) (by decide +kernel)) rfl⟩
theorem mb_L_41 : MB RL 41 yX11_count cX11_count 4 (some .int) 1 := ⟨mem_tg (List.mem_of_getElem? (i := 903) (by decide +kernel)) rfl, mem_tg (List.mem_of_getElem? (i := 52) (by decide +kernel)) rfl, mem_tg (List.mem_of_getElem? (i := 906) (by decide +kernel)) rfl, by decide +kernel, by decide +kernel, by decide +kernel⟩
theorem mv_X11_count : Cond.instanceMethod yX11_count ∈ tg ∧ Cond.selects yX11_count.cls yX11_count yX11_count ∈ tg := ⟨mem_tg (List.mem_of_getElem? (i := 904) (by decide +kernel)) rfl, mem_tg (List.mem_of_getElem? (i := 905) (by decide +kernel)) rfl⟩
theorem mb_L_66 : MB RL 66 yX11_tail cX11_tail 4 (some .int) 2 := ⟨mem_tg (List.mem_of_getElem? (i := 907) (by decide +kernel)) rfl, mem_tg (List.mem_of_getElem? (i := 52) (by decide +kernel)) rfl, mem_tg (List.mem_of_getElem? (i := 910) (by decide +kernel)) rfl, by decide +kernel, by decide +kernel, by decide +kernel⟩
theorem mv_X11_tail : Cond.instanceMethod yX11_tail ∈ tg ∧ Cond.selects yX11_tail.cls yX11_tail yX11_tail ∈ tg := ⟨mem_tg (List.mem_of_getElem? (i := 908) (by decide +kernel)) rfl, mem_tg (List.mem_of_getElem? (i := 909) (by decide +kernel)) rfl⟩
theorem mb_X11_146 : MB RX11 146 yX11_isBell cX11_isBell 1 (some .boolean) 1 := ⟨mem_tg (List.mem_of_getElem? (i := 911) (by decide +kernel)) rfl, mem_tg (List.mem_of_getElem? (i := 52) (by decide +kernel)) rfl, mem_tg (List.mem_of_getElem? (i := 913) (by decide +kernel)) rfl, by decide +kernel, by decide +kernel, by decide +kernel⟩
theorem ms_X11_isBell : Cond.static yX11_isBell ∈ tg := mem_tg (List.mem_of_getElem? (i := 912) (by decide +kernel)) rfl
theorem mb_L_70 : MB RL 70 yX11_quarrel cX11_quarrel 3 (some .int) 1 := ⟨mem_tg (List.mem_of_getElem? (i := 914) (by decide +kernel)) rfl, mem_tg (List.mem_of_getElem? (i := 52) (by decide +kernel)) rfl, mem_tg (List.mem_of_getElem? (i := 917) (by decide +kernel)) rfl, by decide +kernel, by decide +kernel, by decide +kernel⟩
theorem mv_X11_quarrel : Cond.instanceMethod yX11_quarrel ∈ tg ∧ Cond.selects yX11_quarrel.cls yX11_quarrel yX11_quarrel ∈ tg := ⟨mem_tg (List.mem_of_getElem? (i := 915) (by decide +kernel)) rfl, mem_tg (List.mem_of_getElem? (i := 916) (by decide +kernel)) rfl⟩
theorem mb_L_78 : MB RL 78 yX11_sounds cX11_sounds 4 (some .int) 1 := ⟨mem_tg (List.mem_of_getElem? (i := 918) (by decide +kernel)) rfl, mem_tg (List.mem_of_getElem? (i := 52) (by decide +kernel)) rfl, mem_tg (List.mem_of_getElem? (i := 921) (by decide +kernel)) rfl, by decide +kernel, by decide +kernel, by decide +kernel⟩
theorem mv_X11_sounds : Cond.instanceMethod yX11_sounds ∈ tg ∧ Cond.selects yX11_sounds.cls yX11_sounds yX11_sounds ∈ tg := ⟨mem_tg (List.mem_of_getElem? (i := 919) (by decide +kernel)) rfl, mem_tg (List.mem_of_getElem? (i := 920) (by decide +kernel)) rfl⟩
theorem mb_L_74 : MB RL 74 yX11_quarrels cX11_quarrels 7 (some .int) 0 := ⟨mem_tg (List.mem_of_getElem? (i := 922) (by decide +kernel)) rfl, mem_tg (List.mem_of_getElem? (i := 52) (by decide +kernel)) rfl, mem_tg (List.mem_of_getElem? (i := 925) (by decide +kernel)) rfl, by decide +kernel, by decide +kernel, by decide +kernel⟩
theorem mv_X11_quarrels : Cond.instanceMethod yX11_quarrels ∈ tg ∧ Cond.selects yX11_quarrels.cls yX11_quarrels yX11_quarrels ∈ tg := ⟨mem_tg (List.mem_of_getElem? (i := 923) (by decide +kernel)) rfl, mem_tg (List.mem_of_getElem? (i := 924) (by decide +kernel)) rfl⟩
theorem mb_X11_149 : MB RX11 149 yX11_sounds cX11_sounds 4 (some .int) 1 := ⟨mem_tg (List.mem_of_getElem? (i := 926) (by decide +kernel)) rfl, mem_tg (List.mem_of_getElem? (i := 52) (by decide +kernel)) rfl, mem_tg (List.mem_of_getElem? (i := 921) (by decide +kernel)) rfl, by decide +kernel, by decide +kernel, by decide +kernel⟩
theorem mb_L_82 : MB RL 82 yX11_drum cX11_drum 3 (some .boolean) 1 := ⟨mem_tg (List.mem_of_getElem? (i := 927) (by decide +kernel)) rfl, mem_tg (List.mem_of_getElem? (i := 52) (by decide +kernel)) rfl, mem_tg (List.mem_of_getElem? (i := 930) (by decide +kernel)) rfl, by decide +kernel, by decide +kernel, by decide +kernel⟩
theorem mv_X11_drum : Cond.instanceMethod yX11_drum ∈ tg ∧ Cond.selects yX11_drum.cls yX11_drum yX11_drum ∈ tg := ⟨mem_tg (List.mem_of_getElem? (i := 928) (by decide +kernel)) rfl, mem_tg (List.mem_of_getElem? (i := 929) (by decide +kernel)) rfl⟩
theorem mb_L_86 : MB RL 86 yX11_change cX11_change 6 (some .int) 0 := ⟨mem_tg (List.mem_of_getElem? (i := 931) (by decide +kernel)) rfl, mem_tg (List.mem_of_getElem? (i := 52) (by decide +kernel)) rfl, mem_tg (List.mem_of_getElem? (i := 934) (by decide +kernel)) rfl, by decide +kernel, by decide +kernel, by decide +kernel⟩
theorem mv_X11_change : Cond.instanceMethod yX11_change ∈ tg ∧ Cond.selects yX11_change.cls yX11_change yX11_change ∈ tg := ⟨mem_tg (List.mem_of_getElem? (i := 932) (by decide +kernel)) rfl, mem_tg (List.mem_of_getElem? (i := 933) (by decide +kernel)) rfl⟩
theorem mb_X11_152 : MB RX11 152 yX11_stepOf cX11_stepOf 3 (some .int) 2 := ⟨mem_tg (List.mem_of_getElem? (i := 935) (by decide +kernel)) rfl, mem_tg (List.mem_of_getElem? (i := 52) (by decide +kernel)) rfl, mem_tg (List.mem_of_getElem? (i := 938) (by decide +kernel)) rfl, by decide +kernel, by decide +kernel, by decide +kernel⟩
theorem mv_X11_stepOf : Cond.instanceMethod yX11_stepOf ∈ tg ∧ Cond.selects yX11_stepOf.cls yX11_stepOf yX11_stepOf ∈ tg := ⟨mem_tg (List.mem_of_getElem? (i := 937) (by decide +kernel)) rfl, mem_tg (List.mem_of_getElem? (i := 39) (by decide +kernel)) rfl⟩
theorem mb_L_90 : MB RL 90 yX11_turn cX11_turn 1 (some .int) 0 := ⟨mem_tg (List.mem_of_getElem? (i := 939) (by decide +kernel)) rfl, mem_tg (List.mem_of_getElem? (i := 52) (by decide +kernel)) rfl, mem_tg (List.mem_of_getElem? (i := 942) (by decide +kernel)) rfl, by decide +kernel, by decide +kernel, by decide +kernel⟩
theorem mv_X11_turn : Cond.instanceMethod yX11_turn ∈ tg ∧ Cond.selects yX11_turn.cls yX11_turn yX11_turn ∈ tg := ⟨mem_tg (List.mem_of_getElem? (i := 940) (by decide +kernel)) rfl, mem_tg (List.mem_of_getElem? (i := 941) (by decide +kernel)) rfl⟩
theorem mb_L_94 : MB RL 94 yX11_pin cX11_pin 3 (some .int) 2 := ⟨mem_tg (List.mem_of_getElem? (i := 943) (by decide +kernel)) rfl, mem_tg (List.mem_of_getElem? (i := 52) (by decide +kernel)) rfl, mem_tg (List.mem_of_getElem? (i := 946) (by decide +kernel)) rfl, by decide +kernel, by decide +kernel, by decide +kernel⟩
theorem mv_X11_pin : Cond.instanceMethod yX11_pin ∈ tg ∧ Cond.selects yX11_pin.cls yX11_pin yX11_pin ∈ tg := ⟨mem_tg (List.mem_of_getElem? (i := 944) (by decide +kernel)) rfl, mem_tg (List.mem_of_getElem? (i := 945) (by decide +kernel)) rfl⟩
theorem mb_L_98 : MB RL 98 yX11_pins cX11_pins 4 (some .int) 0 := ⟨mem_tg (List.mem_of_getElem? (i := 947) (by decide +kernel)) rfl, mem_tg (List.mem_of_getElem? (i := 52) (by decide +kernel)) rfl, mem_tg (List.mem_of_getElem? (i := 950) (by decide +kernel)) rfl, by decide +kernel, by decide +kernel, by decide +kernel⟩
theorem mv_X11_pins : Cond.instanceMethod yX11_pins ∈ tg ∧ Cond.selects yX11_pins.cls yX11_pins yX11_pins ∈ tg := ⟨mem_tg (List.mem_of_getElem? (i := 948) (by decide +kernel)) rfl, mem_tg (List.mem_of_getElem? (i := 949) (by decide +kernel)) rfl⟩
theorem mb_L_102 : MB RL 102 yX11_play cX11_play 5 (some .int) 1 := ⟨mem_tg (List.mem_of_getElem? (i := 951) (by decide +kernel)) rfl, mem_tg (List.mem_of_getElem? (i := 52) (by decide +kernel)) rfl, mem_tg (List.mem_of_getElem? (i := 954) (by decide +kernel)) rfl, by decide +kernel, by decide +kernel, by decide +kernel⟩
theorem mv_X11_play : Cond.instanceMethod yX11_play ∈ tg ∧ Cond.selects yX11_play.cls yX11_play yX11_play ∈ tg := ⟨mem_tg (List.mem_of_getElem? (i := 952) (by decide +kernel)) rfl, mem_tg (List.mem_of_getElem? (i := 953) (by decide +kernel)) rfl⟩
theorem mb_L_107 : MB RL 107 yX11_strikes cX11_strikes 2 (some .long) 1 := ⟨mem_tg (List.mem_of_getElem? (i := 955) (by decide +kernel)) rfl, mem_tg (List.mem_of_getElem? (i := 52) (by decide +kernel)) rfl, mem_tg (List.mem_of_getElem? (i := 958) (by decide +kernel)) rfl, by decide +kernel, by decide +kernel, by decide +kernel⟩
theorem mv_X11_strikes : Cond.instanceMethod yX11_strikes ∈ tg ∧ Cond.selects yX11_strikes.cls yX11_strikes yX11_strikes ∈ tg := ⟨mem_tg (List.mem_of_getElem? (i := 956) (by decide +kernel)) rfl, mem_tg (List.mem_of_getElem? (i := 957) (by decide +kernel)) rfl⟩
theorem mb_L_111 : MB RL 111 yX11_mend cX11_mend 4 (some .long) 1 := ⟨mem_tg (List.mem_of_getElem? (i := 960) (by decide +kernel)) rfl, mem_tg (List.mem_of_getElem? (i := 52) (by decide +kernel)) rfl, mem_tg (List.mem_of_getElem? (i := 963) (by decide +kernel)) rfl, by decide +kernel, by decide +kernel, by decide +kernel⟩
theorem mv_X11_mend : Cond.instanceMethod yX11_mend ∈ tg ∧ Cond.selects yX11_mend.cls yX11_mend yX11_mend ∈ tg := ⟨mem_tg (List.mem_of_getElem? (i := 961) (by decide +kernel)) rfl, mem_tg (List.mem_of_getElem? (i := 962) (by decide +kernel)) rfl⟩
theorem mb_L_115 : MB RL 115 yX11_worn cX11_worn 4 (some .int) 1 := ⟨mem_tg (List.mem_of_getElem? (i := 964) (by decide +kernel)) rfl, mem_tg (List.mem_of_getElem? (i := 52) (by decide +kernel)) rfl, mem_tg (List.mem_of_getElem? (i := 967) (by decide +kernel)) rfl, by decide +kernel, by decide +kernel, by decide +kernel⟩
theorem mv_X11_worn : Cond.instanceMethod yX11_worn ∈ tg ∧ Cond.selects yX11_worn.cls yX11_worn yX11_worn ∈ tg := ⟨mem_tg (List.mem_of_getElem? (i := 965) (by decide +kernel)) rfl, mem_tg (List.mem_of_getElem? (i := 966) (by decide +kernel)) rfl⟩
theorem mn_X10_9 : MN RX10 9 yX7_init "CarillonDesk" cX7_init 1 none 0 := ⟨List.mem_of_getElem? (i := 66) (by decide +kernel), mem_tg (List.mem_of_getElem? (i := 42) (by decide +kernel)) rfl, mem_tg (List.mem_of_getElem? (i := 68) (by decide +kernel)) rfl, by decide +kernel, by decide +kernel, by decide +kernel⟩
theorem mi_X7_init : Cond.instanceMethod yX7_init ∈ tg ∧ yX7_init.name = "<init>" := ⟨mem_tg (List.mem_of_getElem? (i := 67) (by decide +kernel)) rfl, rfl⟩
theorem mn_X4_11 : MN RX4 11 yX5_init "CarillonDesk" cX5_init 1 none 0 := ⟨List.mem_of_getElem? (i := 89) (by decide +kernel), mem_tg (List.mem_of_getElem? (i := 44) (by decide +kernel)) rfl, mem_tg (List.mem_of_getElem? (i := 91) (by decide +kernel)) rfl, by decide +kernel, by decide +kernel, by decide +kernel⟩
theorem mi_X5_init : Cond.instanceMethod yX5_init ∈ tg ∧ yX5_init.name = "<init>" := ⟨mem_tg (List.mem_of_getElem? (i := 90) (by decide +kernel)) rfl, rfl⟩
theorem mn_X10_27 : MN RX10 27 yX2_init "CarillonDesk" cX2_init 1 none 0 := ⟨List.mem_of_getElem? (i := 182) (by decide +kernel), mem_tg (List.mem_of_getElem? (i := 45) (by decide +kernel)) rfl, mem_tg (List.mem_of_getElem? (i := 184) (by decide +kernel)) rfl, by decide +kernel, by decide +kernel, by decide +kernel⟩
theorem mi_X2_init : Cond.instanceMethod yX2_init ∈ tg ∧ yX2_init.name = "<init>" := ⟨mem_tg (List.mem_of_getElem? (i := 183) (by decide +kernel)) rfl, rfl⟩
theorem mn_X2_11 : MN RX2 11 yX5_init "CarillonDesk" cX5_init 1 none 0 := ⟨List.mem_of_getElem? (i := 187) (by decide +kernel), mem_tg (List.mem_of_getElem? (i := 44) (by decide +kernel)) rfl, mem_tg (List.mem_of_getElem? (i := 91) (by decide +kernel)) rfl, by decide +kernel, by decide +kernel, by decide +kernel⟩
theorem mn_X2_27 : MN RX2 27 yX1_init "CarillonDesk" cX1_init 1 none 0 := ⟨List.mem_of_getElem? (i := 208) (by decide +kernel), mem_tg (List.mem_of_getElem? (i := 47) (by decide +kernel)) rfl, mem_tg (List.mem_of_getElem? (i := 210) (by decide +kernel)) rfl, by decide +kernel, by decide +kernel, by decide +kernel⟩
theorem mi_X1_init : Cond.instanceMethod yX1_init ∈ tg ∧ yX1_init.name = "<init>" := ⟨mem_tg (List.mem_of_getElem? (i := 209) (by decide +kernel)) rfl, rfl⟩
theorem mn_X2_34 : MN RX2 34 yX0_init "CarillonDesk" cX0_init 1 none 0 := ⟨List.mem_of_getElem? (i := 239) (by decide +kernel), mem_tg (List.mem_of_getElem? (i := 48) (by decide +kernel)) rfl, mem_tg (List.mem_of_getElem? (i := 241) (by decide +kernel)) rfl, by decide +kernel, by decide +kernel, by decide +kernel⟩
theorem mi_X0_init : Cond.instanceMethod yX0_init ∈ tg ∧ yX0_init.name = "<init>" := ⟨mem_tg (List.mem_of_getElem? (i := 240) (by decide +kernel)) rfl, rfl⟩
theorem mn_X10_58 : MN RX10 58 yX9_init "CarillonDesk" cX9_init 1 none 0 := ⟨List.mem_of_getElem? (i := 336) (by decide +kernel), mem_tg (List.mem_of_getElem? (i := 51) (by decide +kernel)) rfl, mem_tg (List.mem_of_getElem? (i := 338) (by decide +kernel)) rfl, by decide +kernel, by decide +kernel, by decide +kernel⟩
theorem mi_X9_init : Cond.instanceMethod yX9_init ∈ tg ∧ yX9_init.name = "<init>" := ⟨mem_tg (List.mem_of_getElem? (i := 337) (by decide +kernel)) rfl, rfl⟩
theorem nw_L_7 : NWk RL 7 10 8 := ⟨RX10, TX10, tyX10, clX10, mem_tg (List.mem_of_getElem? (i := 56) (by decide +kernel)) rfl, mem_tg (List.mem_of_getElem? (i := 57) (by decide +kernel)) rfl, mem_tg (List.mem_of_getElem? (i := 41) (by decide +kernel)) rfl, by decide +kernel⟩
theorem nw_X10_7 : NWk RX10 7 7 2 := ⟨RX7, TX7, tyX7, clX7, mem_tg (List.mem_of_getElem? (i := 64) (by decide +kernel)) rfl, mem_tg (List.mem_of_getElem? (i := 65) (by decide +kernel)) rfl, mem_tg (List.mem_of_getElem? (i := 42) (by decide +kernel)) rfl, by decide +kernel⟩
theorem nw_X10_16 : NWk RX10 16 4 16 := ⟨RX4, TX4, tyX4, clX4, mem_tg (List.mem_of_getElem? (i := 81) (by decide +kernel)) rfl, mem_tg (List.mem_of_getElem? (i := 82) (by decide +kernel)) rfl, mem_tg (List.mem_of_getElem? (i := 43) (by decide +kernel)) rfl, by decide +kernel⟩
theorem nw_X4_9 : NWk RX4 9 5 4 := ⟨RX5, TX5, tyX5, clX5, mem_tg (List.mem_of_getElem? (i := 87) (by decide +kernel)) rfl, mem_tg (List.mem_of_getElem? (i := 88) (by decide +kernel)) rfl, mem_tg (List.mem_of_getElem? (i := 44) (by decide +kernel)) rfl, by decide +kernel⟩
theorem nw_X10_25 : NWk RX10 25 2 8 := ⟨RX2, TX2, tyX2, clX2, mem_tg (List.mem_of_getElem? (i := 180) (by decide +kernel)) rfl, mem_tg (List.mem_of_getElem? (i := 181) (by decide +kernel)) rfl, mem_tg (List.mem_of_getElem? (i := 45) (by decide +kernel)) rfl, by decide +kernel⟩
theorem cn_X10_25 : Cond.classLink RX10 25 RX2 ∈ tg := mem_tg (List.mem_of_getElem? (i := 180) (by decide +kernel)) rfl
theorem nw_X2_9 : NWk RX2 9 5 4 := ⟨RX5, TX5, tyX5, clX5, mem_tg (List.mem_of_getElem? (i := 186) (by decide +kernel)) rfl, mem_tg (List.mem_of_getElem? (i := 88) (by decide +kernel)) rfl, mem_tg (List.mem_of_getElem? (i := 44) (by decide +kernel)) rfl, by decide +kernel⟩
theorem nw_X2_18 : NWk RX2 18 8 3 := ⟨RX8, TX8, tyX8, clX8, mem_tg (List.mem_of_getElem? (i := 188) (by decide +kernel)) rfl, mem_tg (List.mem_of_getElem? (i := 189) (by decide +kernel)) rfl, mem_tg (List.mem_of_getElem? (i := 46) (by decide +kernel)) rfl, by decide +kernel⟩
theorem nw_X2_25 : NWk RX2 25 1 5 := ⟨RX1, TX1, tyX1, clX1, mem_tg (List.mem_of_getElem? (i := 206) (by decide +kernel)) rfl, mem_tg (List.mem_of_getElem? (i := 207) (by decide +kernel)) rfl, mem_tg (List.mem_of_getElem? (i := 47) (by decide +kernel)) rfl, by decide +kernel⟩
theorem nw_X2_32 : NWk RX2 32 0 1 := ⟨RX0, TX0, tyX0, clX0, mem_tg (List.mem_of_getElem? (i := 237) (by decide +kernel)) rfl, mem_tg (List.mem_of_getElem? (i := 238) (by decide +kernel)) rfl, mem_tg (List.mem_of_getElem? (i := 48) (by decide +kernel)) rfl, by decide +kernel⟩
theorem nw_X10_36 : NWk RX10 36 6 8 := ⟨RX6, TX6, tyX6, clX6, mem_tg (List.mem_of_getElem? (i := 283) (by decide +kernel)) rfl, mem_tg (List.mem_of_getElem? (i := 284) (by decide +kernel)) rfl, mem_tg (List.mem_of_getElem? (i := 49) (by decide +kernel)) rfl, by decide +kernel⟩
theorem nw_X10_49 : NWk RX10 49 3 2 := ⟨RX3, TX3, tyX3, clX3, mem_tg (List.mem_of_getElem? (i := 319) (by decide +kernel)) rfl, mem_tg (List.mem_of_getElem? (i := 320) (by decide +kernel)) rfl, mem_tg (List.mem_of_getElem? (i := 50) (by decide +kernel)) rfl, by decide +kernel⟩
theorem cn_X3_9 : Cond.classLink RX3 9 "[[I" ∈ tg := mem_tg (List.mem_of_getElem? (i := 325) (by decide +kernel)) rfl
theorem nw_X10_56 : NWk RX10 56 9 3 := ⟨RX9, TX9, tyX9, clX9, mem_tg (List.mem_of_getElem? (i := 334) (by decide +kernel)) rfl, mem_tg (List.mem_of_getElem? (i := 335) (by decide +kernel)) rfl, mem_tg (List.mem_of_getElem? (i := 51) (by decide +kernel)) rfl, by decide +kernel⟩
theorem nw_L_10 : NWk RL 10 11 23 := ⟨RX11, TX11, tyX11, clX11, mem_tg (List.mem_of_getElem? (i := 709) (by decide +kernel)) rfl, mem_tg (List.mem_of_getElem? (i := 710) (by decide +kernel)) rfl, mem_tg (List.mem_of_getElem? (i := 52) (by decide +kernel)) rfl, by decide +kernel⟩
theorem kc_X4_38 : Cond.constant RX4 38 (1000000 : Int32) ∈ tg := mem_tg (List.mem_of_getElem? (i := 409) (by decide +kernel)) rfl
theorem kc_J6_265 : Cond.constant RJ6 265 (1431655765 : Int32) ∈ tg := mem_tg (List.mem_of_getElem? (i := 452) (by decide +kernel)) rfl
theorem kc_J6_266 : Cond.constant RJ6 266 (858993459 : Int32) ∈ tg := mem_tg (List.mem_of_getElem? (i := 453) (by decide +kernel)) rfl
theorem kc_J6_267 : Cond.constant RJ6 267 (252645135 : Int32) ∈ tg := mem_tg (List.mem_of_getElem? (i := 454) (by decide +kernel)) rfl
theorem kc_X11_42 : Cond.constant RX11 42 (1030301 : Int32) ∈ tg := mem_tg (List.mem_of_getElem? (i := 715) (by decide +kernel)) rfl
theorem kc_X11_120 : Cond.constant RX11 120 (100000000 : Int32) ∈ tg := mem_tg (List.mem_of_getElem? (i := 874) (by decide +kernel)) rfl
theorem kl_X10_214 : Cond.constantLong RX10 214 (-1 : Int64) ∈ tg := mem_tg (List.mem_of_getElem? (i := 668) (by decide +kernel)) rfl
theorem kl_X11_155 : Cond.constantLong RX11 155 (-1 : Int64) ∈ tg := mem_tg (List.mem_of_getElem? (i := 959) (by decide +kernel)) rfl
theorem jm_max : Cond.static Lib.Math.max.name ∈ tg := by decide +kernel
theorem jc_max : Cond.code Lib.Math.max.name Lib.Math.max.code 2 (some .int) ∈ tg := by decide +kernel
theorem jm_min : Cond.static Lib.Math.min.name ∈ tg := by decide +kernel
theorem jc_min : Cond.code Lib.Math.min.name Lib.Math.min.code 2 (some .int) ∈ tg := by decide +kernel
theorem jm_abs : Cond.static Lib.Math.abs.name ∈ tg := by decide +kernel
theorem jc_abs : Cond.code Lib.Math.abs.name Lib.Math.abs.code 1 (some .int) ∈ tg := by decide +kernel
theorem jm_ini : Cond.initialized "java/lang/Math" ∈ tg := by decide +kernel
theorem js_nat : Cond.native arraycopyName ∈ tg := by decide +kernel
theorem js_st : Cond.static arraycopyName ∈ tg := by decide +kernel
theorem js_ini : Cond.initialized "java/lang/System" ∈ tg := by decide +kernel
theorem jo_i : Cond.instanceMethod objectInit ∈ tg := by decide +kernel
theorem jo_c : Cond.code objectInit ⟨#[0xb1]⟩ 1 none ∈ tg := by decide +kernel
theorem ac_int : Cond.arrayClass (newarray.typeOf .int) ∈ tg := by decide +kernel
theorem ac_byte : Cond.arrayClass (newarray.typeOf .byte) ∈ tg := by decide +kernel
theorem ac_boolean : Cond.arrayClass (newarray.typeOf .boolean) ∈ tg := by decide +kernel
theorem ac_long : Cond.arrayClass (newarray.typeOf .long) ∈ tg := by decide +kernel
end
section
section TOLD
variable {Γ : Gm} {own : String} {cc : ByteArray} {nL : Nat} {ret : Option FieldType} {rm : Room} {nm : String} {cells slots pc pc2 : Nat} {Q : State → Prop} {lo : List (Option Value)} {st : List Value} {n n2 : Nat} {K K2 : wKd} {I I2 : wIn} {L L2 : wLn} {R R2 : wRf}
theorem w_gV (C : Cx Γ own cc nL ret rm nm) {idx b ci m np nL2 : Nat} {y : MethodName} {cc2 : ByteArray} {ret2 : Option FieldType} {rm2 : Room} {As st0 : List Value} {post : Post} (hd : decode cc pc = .ok (.invokevirtual idx, 3)) (hB : MB own idx y cc2 nL2 ret2 np) (hV : Cond.instanceMethod y ∈ tg ∧ Cond.selects y.cls y y ∈ tg) (hS2 : Sp y cc2 nL2 ret2 rm2 (.ref b :: As) n K I L R post) (hk : K b = (ci, m)) (hci : (vwCl[ci]?).map (fun q => q.1) = some y.cls) (hc1 : ci < 100) (hst : st0 = As.reverse ++ .ref b :: st) (hn : As.length = np) (hcat : (st.map fun v => v.category).sum ≤ 8) (hroom : rm2.frames + 1 ≤ rm.frames ∧ 8 + (nL2 + 11) + rm2.locals ≤ rm.locals) (hz : rm2.cells = 0 ∧ rm2.slots = 0) (hf : cells ≤ rm.cells ∧ slots ≤ rm.slots) (hp : pc + 3 = pc2)
    (k : ∀ (r : Option Value) (n2 : Nat) (K2 : wKd) (I2 : wIn) (L2 : wLn) (R2 : wRf), post r n2 K2 I2 L2 R2 → wp Γ cells slots Q pc2 lo (r.toList ++ st) n2 K2 I2 L2 R2) : wp Γ cells slots Q pc lo st0 n K I L R := by
  refine w_callV C hd hB hV hS2 hk hci hc1 hst hn hcat hroom (by rw [hz.1, hz.2]; exact hf) hp (fun r n2 K2 I2 L2 R2 hp2 => ?_)
  rw [hz.1, hz.2]
  exact k r n2 K2 I2 L2 R2 hp2
theorem w_cVv (C : Cx Γ own cc nL ret rm nm) {idx b ci m np nL2 : Nat} {y : MethodName} {cc2 : ByteArray} {ret2 : Option FieldType} {rm2 : Room} {As st0 : List Value}  (hd : decode cc pc = .ok (.invokevirtual idx, 3)) (hB : MB own idx y cc2 nL2 ret2 np) (hV : Cond.instanceMethod y ∈ tg ∧ Cond.selects y.cls y y ∈ tg) (hS2 : Sp y cc2 nL2 ret2 rm2 (.ref b :: As) n K I L R (Det none n2 K2 I2 L2 R2)) (hk : K b = (ci, m)) (hci : (vwCl[ci]?).map (fun q => q.1) = some y.cls) (hc1 : ci < 100) (hst : st0 = As.reverse ++ .ref b :: st) (hn : As.length = np) (hcat : (st.map fun v => v.category).sum ≤ 8) (hroom : rm2.frames + 1 ≤ rm.frames ∧ 8 + (nL2 + 11) + rm2.locals ≤ rm.locals) (hz : rm2.cells = 0 ∧ rm2.slots = 0) (hf : cells ≤ rm.cells ∧ slots ≤ rm.slots) (hp : pc + 3 = pc2) (k : wp Γ cells slots Q pc2 lo st n2 K2 I2 L2 R2) : wp Γ cells slots Q pc lo st0 n K I L R := by
  refine w_gV C hd hB hV hS2 hk hci hc1 hst hn hcat hroom hz hf hp (fun r n3 K3 I3 L3 R3 hp2 => ?_)
  obtain ⟨rfl, rfl, rfl, rfl, rfl, rfl⟩ := hp2
  exact k
theorem w_cVi (C : Cx Γ own cc nL ret rm nm) {idx b ci m np nL2 : Nat} {y : MethodName} {cc2 : ByteArray} {ret2 : Option FieldType} {rm2 : Room} {As st0 : List Value} {v : Int32} (hd : decode cc pc = .ok (.invokevirtual idx, 3)) (hB : MB own idx y cc2 nL2 ret2 np) (hV : Cond.instanceMethod y ∈ tg ∧ Cond.selects y.cls y y ∈ tg) (hS2 : Sp y cc2 nL2 ret2 rm2 (.ref b :: As) n K I L R (Det (some (.int v)) n2 K2 I2 L2 R2)) (hk : K b = (ci, m)) (hci : (vwCl[ci]?).map (fun q => q.1) = some y.cls) (hc1 : ci < 100) (hst : st0 = As.reverse ++ .ref b :: st) (hn : As.length = np) (hcat : (st.map fun v => v.category).sum ≤ 8) (hroom : rm2.frames + 1 ≤ rm.frames ∧ 8 + (nL2 + 11) + rm2.locals ≤ rm.locals) (hz : rm2.cells = 0 ∧ rm2.slots = 0) (hf : cells ≤ rm.cells ∧ slots ≤ rm.slots) (hp : pc + 3 = pc2) (k : wp Γ cells slots Q pc2 lo (.int v :: st) n2 K2 I2 L2 R2) : wp Γ cells slots Q pc lo st0 n K I L R := by
  refine w_gV C hd hB hV hS2 hk hci hc1 hst hn hcat hroom hz hf hp (fun r n3 K3 I3 L3 R3 hp2 => ?_)
  obtain ⟨rfl, rfl, rfl, rfl, rfl, rfl⟩ := hp2
  exact k
theorem w_cVl (C : Cx Γ own cc nL ret rm nm) {idx b ci m np nL2 : Nat} {y : MethodName} {cc2 : ByteArray} {ret2 : Option FieldType} {rm2 : Room} {As st0 : List Value} {v : Int64} (hd : decode cc pc = .ok (.invokevirtual idx, 3)) (hB : MB own idx y cc2 nL2 ret2 np) (hV : Cond.instanceMethod y ∈ tg ∧ Cond.selects y.cls y y ∈ tg) (hS2 : Sp y cc2 nL2 ret2 rm2 (.ref b :: As) n K I L R (Det (some (.long v)) n2 K2 I2 L2 R2)) (hk : K b = (ci, m)) (hci : (vwCl[ci]?).map (fun q => q.1) = some y.cls) (hc1 : ci < 100) (hst : st0 = As.reverse ++ .ref b :: st) (hn : As.length = np) (hcat : (st.map fun v => v.category).sum ≤ 8) (hroom : rm2.frames + 1 ≤ rm.frames ∧ 8 + (nL2 + 11) + rm2.locals ≤ rm.locals) (hz : rm2.cells = 0 ∧ rm2.slots = 0) (hf : cells ≤ rm.cells ∧ slots ≤ rm.slots) (hp : pc + 3 = pc2) (k : wp Γ cells slots Q pc2 lo (.long v :: st) n2 K2 I2 L2 R2) : wp Γ cells slots Q pc lo st0 n K I L R := by
  refine w_gV C hd hB hV hS2 hk hci hc1 hst hn hcat hroom hz hf hp (fun r n3 K3 I3 L3 R3 hp2 => ?_)
  obtain ⟨rfl, rfl, rfl, rfl, rfl, rfl⟩ := hp2
  exact k
theorem w_cVr (C : Cx Γ own cc nL ret rm nm) {idx b ci m np nL2 : Nat} {y : MethodName} {cc2 : ByteArray} {ret2 : Option FieldType} {rm2 : Room} {As st0 : List Value} {v : Nat} (hd : decode cc pc = .ok (.invokevirtual idx, 3)) (hB : MB own idx y cc2 nL2 ret2 np) (hV : Cond.instanceMethod y ∈ tg ∧ Cond.selects y.cls y y ∈ tg) (hS2 : Sp y cc2 nL2 ret2 rm2 (.ref b :: As) n K I L R (Det (some (.ref v)) n2 K2 I2 L2 R2)) (hk : K b = (ci, m)) (hci : (vwCl[ci]?).map (fun q => q.1) = some y.cls) (hc1 : ci < 100) (hst : st0 = As.reverse ++ .ref b :: st) (hn : As.length = np) (hcat : (st.map fun v => v.category).sum ≤ 8) (hroom : rm2.frames + 1 ≤ rm.frames ∧ 8 + (nL2 + 11) + rm2.locals ≤ rm.locals) (hz : rm2.cells = 0 ∧ rm2.slots = 0) (hf : cells ≤ rm.cells ∧ slots ≤ rm.slots) (hp : pc + 3 = pc2) (k : wp Γ cells slots Q pc2 lo (.ref v :: st) n2 K2 I2 L2 R2) : wp Γ cells slots Q pc lo st0 n K I L R := by
  refine w_gV C hd hB hV hS2 hk hci hc1 hst hn hcat hroom hz hf hp (fun r n3 K3 I3 L3 R3 hp2 => ?_)
  obtain ⟨rfl, rfl, rfl, rfl, rfl, rfl⟩ := hp2
  exact k
theorem w_gS (C : Cx Γ own cc nL ret rm nm) {idx np nL2 : Nat} {y : MethodName} {cc2 : ByteArray} {ret2 : Option FieldType} {rm2 : Room} {As st0 : List Value} {post : Post} (hd : decode cc pc = .ok (.invokestatic idx, 3)) (hB : MB own idx y cc2 nL2 ret2 np) (hV : Cond.static y ∈ tg) (hS2 : Sp y cc2 nL2 ret2 rm2 As n K I L R post) (hst : st0 = As.reverse ++ st) (hn : As.length = np) (hcat : (st.map fun v => v.category).sum ≤ 8) (hroom : rm2.frames + 1 ≤ rm.frames ∧ 8 + (nL2 + 11) + rm2.locals ≤ rm.locals) (hz : rm2.cells = 0 ∧ rm2.slots = 0) (hf : cells ≤ rm.cells ∧ slots ≤ rm.slots) (hp : pc + 3 = pc2)
    (k : ∀ (r : Option Value) (n2 : Nat) (K2 : wKd) (I2 : wIn) (L2 : wLn) (R2 : wRf), post r n2 K2 I2 L2 R2 → wp Γ cells slots Q pc2 lo (r.toList ++ st) n2 K2 I2 L2 R2) : wp Γ cells slots Q pc lo st0 n K I L R := by
  refine w_callS C hd hB hV hS2 hst hn hcat hroom (by rw [hz.1, hz.2]; exact hf) hp (fun r n2 K2 I2 L2 R2 hp2 => ?_)
  rw [hz.1, hz.2]
  exact k r n2 K2 I2 L2 R2 hp2
theorem w_cSv (C : Cx Γ own cc nL ret rm nm) {idx np nL2 : Nat} {y : MethodName} {cc2 : ByteArray} {ret2 : Option FieldType} {rm2 : Room} {As st0 : List Value}  (hd : decode cc pc = .ok (.invokestatic idx, 3)) (hB : MB own idx y cc2 nL2 ret2 np) (hV : Cond.static y ∈ tg) (hS2 : Sp y cc2 nL2 ret2 rm2 As n K I L R (Det none n2 K2 I2 L2 R2)) (hst : st0 = As.reverse ++ st) (hn : As.length = np) (hcat : (st.map fun v => v.category).sum ≤ 8) (hroom : rm2.frames + 1 ≤ rm.frames ∧ 8 + (nL2 + 11) + rm2.locals ≤ rm.locals) (hz : rm2.cells = 0 ∧ rm2.slots = 0) (hf : cells ≤ rm.cells ∧ slots ≤ rm.slots) (hp : pc + 3 = pc2) (k : wp Γ cells slots Q pc2 lo st n2 K2 I2 L2 R2) : wp Γ cells slots Q pc lo st0 n K I L R := by
  refine w_gS C hd hB hV hS2 hst hn hcat hroom hz hf hp (fun r n3 K3 I3 L3 R3 hp2 => ?_)
  obtain ⟨rfl, rfl, rfl, rfl, rfl, rfl⟩ := hp2
  exact k
theorem w_cSi (C : Cx Γ own cc nL ret rm nm) {idx np nL2 : Nat} {y : MethodName} {cc2 : ByteArray} {ret2 : Option FieldType} {rm2 : Room} {As st0 : List Value} {v : Int32} (hd : decode cc pc = .ok (.invokestatic idx, 3)) (hB : MB own idx y cc2 nL2 ret2 np) (hV : Cond.static y ∈ tg) (hS2 : Sp y cc2 nL2 ret2 rm2 As n K I L R (Det (some (.int v)) n2 K2 I2 L2 R2)) (hst : st0 = As.reverse ++ st) (hn : As.length = np) (hcat : (st.map fun v => v.category).sum ≤ 8) (hroom : rm2.frames + 1 ≤ rm.frames ∧ 8 + (nL2 + 11) + rm2.locals ≤ rm.locals) (hz : rm2.cells = 0 ∧ rm2.slots = 0) (hf : cells ≤ rm.cells ∧ slots ≤ rm.slots) (hp : pc + 3 = pc2) (k : wp Γ cells slots Q pc2 lo (.int v :: st) n2 K2 I2 L2 R2) : wp Γ cells slots Q pc lo st0 n K I L R := by
  refine w_gS C hd hB hV hS2 hst hn hcat hroom hz hf hp (fun r n3 K3 I3 L3 R3 hp2 => ?_)
  obtain ⟨rfl, rfl, rfl, rfl, rfl, rfl⟩ := hp2
  exact k
theorem w_cSl (C : Cx Γ own cc nL ret rm nm) {idx np nL2 : Nat} {y : MethodName} {cc2 : ByteArray} {ret2 : Option FieldType} {rm2 : Room} {As st0 : List Value} {v : Int64} (hd : decode cc pc = .ok (.invokestatic idx, 3)) (hB : MB own idx y cc2 nL2 ret2 np) (hV : Cond.static y ∈ tg) (hS2 : Sp y cc2 nL2 ret2 rm2 As n K I L R (Det (some (.long v)) n2 K2 I2 L2 R2)) (hst : st0 = As.reverse ++ st) (hn : As.length = np) (hcat : (st.map fun v => v.category).sum ≤ 8) (hroom : rm2.frames + 1 ≤ rm.frames ∧ 8 + (nL2 + 11) + rm2.locals ≤ rm.locals) (hz : rm2.cells = 0 ∧ rm2.slots = 0) (hf : cells ≤ rm.cells ∧ slots ≤ rm.slots) (hp : pc + 3 = pc2) (k : wp Γ cells slots Q pc2 lo (.long v :: st) n2 K2 I2 L2 R2) : wp Γ cells slots Q pc lo st0 n K I L R := by
  refine w_gS C hd hB hV hS2 hst hn hcat hroom hz hf hp (fun r n3 K3 I3 L3 R3 hp2 => ?_)
  obtain ⟨rfl, rfl, rfl, rfl, rfl, rfl⟩ := hp2
  exact k
theorem w_cSr (C : Cx Γ own cc nL ret rm nm) {idx np nL2 : Nat} {y : MethodName} {cc2 : ByteArray} {ret2 : Option FieldType} {rm2 : Room} {As st0 : List Value} {v : Nat} (hd : decode cc pc = .ok (.invokestatic idx, 3)) (hB : MB own idx y cc2 nL2 ret2 np) (hV : Cond.static y ∈ tg) (hS2 : Sp y cc2 nL2 ret2 rm2 As n K I L R (Det (some (.ref v)) n2 K2 I2 L2 R2)) (hst : st0 = As.reverse ++ st) (hn : As.length = np) (hcat : (st.map fun v => v.category).sum ≤ 8) (hroom : rm2.frames + 1 ≤ rm.frames ∧ 8 + (nL2 + 11) + rm2.locals ≤ rm.locals) (hz : rm2.cells = 0 ∧ rm2.slots = 0) (hf : cells ≤ rm.cells ∧ slots ≤ rm.slots) (hp : pc + 3 = pc2) (k : wp Γ cells slots Q pc2 lo (.ref v :: st) n2 K2 I2 L2 R2) : wp Γ cells slots Q pc lo st0 n K I L R := by
  refine w_gS C hd hB hV hS2 hst hn hcat hroom hz hf hp (fun r n3 K3 I3 L3 R3 hp2 => ?_)
  obtain ⟨rfl, rfl, rfl, rfl, rfl, rfl⟩ := hp2
  exact k
end TOLD
end
section
/-! ===== where things lie: cells 0 .. 33 the class, 34 .. 47 the reference ===== -/
def KL : List (Nat × Nat) := [(10, 0), (7, 0), (101, 1000), (4, 0), (5, 0), (100, 100), (100, 100), (100, 4), (100, 4), (100, 4), (100, 4), (2, 0), (5, 0), (100, 100), (100, 100), (8, 0), (100, 24), (100, 100), (1, 0), (100, 100), (100, 100), (0, 0), (103, 24), (104, 2), (6, 0), (100, 100), (100, 2), (100, 10201), (3, 0), (105, 2), (100, 100), (100, 100), (9, 0), (100, 2063),
  (11, 0), (100, 6888), (103, 72), (102, 2), (100, 1000), (100, 200), (100, 200), (100, 1001), (100, 4), (100, 4), (100, 4), (100, 1030301), (100, 100), (100, 2)]
def RL2 : List (List (Option Nat)) := [[some 1, some 3, some 11, some 23, some 24, some 28, some 32], [some 2], [], [some 4, none, none, some 1, some 7, some 8, some 9, some 10], [some 5, some 6], [], [], [], [], [], [], [some 12, some 15, some 18, some 21], [some 13, some 14], [], [], [some 16, none, some 17], [], [], [some 19, some 20], [], [], [some 22], [], [], [some 25, some 26, none, none, some 12, some 27], [], [], [], [some 12, some 29], [some 30, some 31], [], [], [none, none, some 33], [],
  [some 35, some 36, some 37, some 38, none, none, none, none, none, none, none, none, some 39, some 40, some 41, none, none, some 42, some 43, some 44, some 45, some 46, some 47]]
def KT (i : Nat) : Nat × Nat := KL.getD i (999, 0)
def RT (i k : Nat) : Option Nat := (RL2.getD i []).getD k none
def Ly (K : wKd) (R : wRf) : Prop := (∀ i, i < 48 → K i = KT i) ∧ ∀ i, i < 48 ∧ i ≠ 23 → ∀ k, R i k = RT i k
theorem Ly.k {K : wKd} {R : wRf} (h : Ly K R) (i : Nat) (hi : i < 48 := by decide) : K i = KT i := h.1 i hi
theorem Ly.r {K : wKd} {R : wRf} (h : Ly K R) (i k : Nat) (hi : i < 48 ∧ i ≠ 23 := by decide) : R i k = RT i k := h.2 i hi k
/-- a told answer, the world of numbers new, all else as it was -/
abbrev DI (r : Option Value) (n : Nat) (K : wKd) (I : wIn) (L : wLn) (R : wRf) : Post := Det r n K I L R
theorem DetI {r r2 : Option Value} {n : Nat} {K : wKd} {I I2 : wIn} {L : wLn} {R : wRf} (h1 : r = r2) (h2 : I = I2) : Det r2 n K I2 L R r n K I L R := ⟨h1, rfl, rfl, h2, rfl, rfl⟩
end
section
/-! ===== numbers: iI of an integer ===== -/
def iI (a : Int) : Int32 := Int32.ofInt a
theorem iI_add (a b : Int) : iI a + iI b = iI (a + b) := (Int32.ofInt_add a b).symm
theorem iI_sub (a b : Int) : iI a - iI b = iI (a - b) := (Int32.ofInt_sub a b).symm
theorem iI_mul (a b : Int) : iI a * iI b = iI (a * b) := (Int32.ofInt_mul a b).symm
theorem iI_neg (a : Int) : - iI a = iI (- a) := (Int32.ofInt_neg a).symm
theorem iI_toInt {a : Int} (h1 : -2147483648 ≤ a) (h2 : a < 2147483648) : (iI a).toInt = a := by
  exact Int32.toInt_ofInt_of_le (by omega) (by omega)
theorem iI_of (x : Int32) : iI x.toInt = x := by unfold iI; exact Int32.ofInt_toInt x
theorem iI_lt {a b : Int} (h1 : -2147483648 ≤ a) (h2 : a < 2147483648) (h3 : -2147483648 ≤ b) (h4 : b < 2147483648) : iI a < iI b ↔ a < b := by
  rw [Int32.lt_iff_toInt_lt, iI_toInt h1 h2, iI_toInt h3 h4]
theorem iI_le {a b : Int} (h1 : -2147483648 ≤ a) (h2 : a < 2147483648) (h3 : -2147483648 ≤ b) (h4 : b < 2147483648) : iI a ≤ iI b ↔ a ≤ b := by
  rw [Int32.le_iff_toInt_le, iI_toInt h1 h2, iI_toInt h3 h4]
theorem iI_eq {a b : Int} (h1 : -2147483648 ≤ a) (h2 : a < 2147483648) (h3 : -2147483648 ≤ b) (h4 : b < 2147483648) : iI a = iI b ↔ a = b := by
  rw [← Int32.toInt_inj, iI_toInt h1 h2, iI_toInt h3 h4]
theorem iI_n {a : Int} {j : Nat} (h : a = j) : iI a = nI j := by subst h; rfl
theorem nI_i (j : Nat) : nI j = iI j := rfl
theorem iI_0 : iI 0 = 0 := rfl
theorem iI_1 : iI 1 = 1 := rfl
theorem iI_m1 : iI (-1) = -1 := rfl
theorem iI_z : (0 : Int32) = iI 0 := rfl
theorem iI_max {a b : Int} (h1 : -2147483648 ≤ a) (h2 : a < 2147483648) (h3 : -2147483648 ≤ b) (h4 : b < 2147483648) : (if iI a < iI b then iI b else iI a) = iI (max a b) := by
  simp only [iI_lt h1 h2 h3 h4]
  split
  · rw [Int.max_eq_right (by omega)]
  · rw [Int.max_eq_left (by omega)]
theorem iI_min {a b : Int} (h1 : -2147483648 ≤ a) (h2 : a < 2147483648) (h3 : -2147483648 ≤ b) (h4 : b < 2147483648) : (if iI b < iI a then iI b else iI a) = iI (min a b) := by
  simp only [iI_lt h3 h4 h1 h2]
  split
  · rw [Int.min_eq_right (by omega)]
  · rw [Int.min_eq_left (by omega)]
theorem iI_abs {a : Int} (h1 : -2147483647 ≤ a) (h2 : a < 2147483648) : (if 0 ≤ iI a then iI a else 0 - iI a) = iI a.natAbs := by
  have e : (0 ≤ iI a) ↔ 0 ≤ a := by rw [iI_z]; exact iI_le (by omega) (by omega) (by omega) h2
  simp only [e]
  split
  · congr 1; omega
  · rw [iI_z, iI_sub]; congr 1; omega
theorem iI_div {a b : Int} (h1 : 0 ≤ a) (h2 : a < 2147483648) (h3 : 0 < b) (h4 : b < 2147483648) : iI a / iI b = iI (a / b) := by
  have h := pk_div (a := a.toNat) (d := b.toNat) (by omega) (by omega) (by omega)
  have ea : iI a = nI a.toNat := iI_n (by omega)
  have eb : iI b = nI b.toNat := iI_n (by omega)
  rw [ea, eb, h, nI_i]
  congr 1
  rw [Int.natCast_ediv]
  congr 1 <;> omega
theorem iI_rem {a b : Int} (h1 : 0 ≤ a) (h2 : a < 2147483648) (h3 : 0 < b) (h4 : b < 2147483648) : iI a - iI a / iI b * iI b = iI (a % b) := by
  rw [iI_div h1 h2 h3 h4, iI_mul, iI_sub]
  congr 1
  have := Int.emod_def a b
  rw [Int.mul_comm b] at this
  exact this.symm
theorem iI_ne0 {a : Int} (h1 : a ≠ 0) (h2 : -2147483648 ≤ a) (h3 : a < 2147483648) : ¬ iI a = 0 := by
  rw [iI_z, iI_eq h2 h3 (by omega) (by omega)]; exact h1
/-- an index: too small, too large, or a place -/
theorem ix_cases (x : Int32) : ∃ a : Int, -2147483648 ≤ a ∧ a < 2147483648 ∧ x = iI a := ⟨x.toInt, Int32.le_toInt x, Int32.toInt_lt x, (iI_of x).symm⟩
end
section
/-! ===== the rules over integers ===== -/
abbrev wJn : Type := Nat → Nat → Int
def zw (J : wJn) : wIn := fun a b => iI (J a b)
theorem zw_up (J : wJn) (i k : Nat) (x : Int) : up2 (zw J) i k (iI x) = zw (up2 J i k x) := by
  funext a b
  by_cases h : a = i ∧ b = k
  · simp [up2, zw, h]
  · simp only [up2, zw, if_neg h]
theorem zw_upR (J : wJn) (i k : Nat) (x : Int32) : up2 (zw J) i k x = zw (up2 J i k x.toInt) := by
  rw [← zw_up, iI_of]
theorem zw_row (J : wJn) (i : Nat) (f : Nat → Int) : up1 (zw J) i (fun b => iI (f b)) = zw (up1 J i f) := by
  funext a
  by_cases h : a = i
  · subst h
    funext b
    simp only [zw, up1_s]
  · simp only [up1, if_neg h]
    funext b
    simp only [zw, up1, if_neg h]
theorem zw_0 (J : wJn) (i : Nat) : up1 (zw J) i (fun _ => 0) = zw (up1 J i (fun _ => 0)) := zw_row J i (fun _ => 0)
abbrev R32 (a : Int) : Prop := -2147483648 ≤ a ∧ a < 2147483648
section ZR
variable {Γ : Gm} {own : String} {cc : ByteArray} {nL : Nat} {ret : Option FieldType} {rm : Room} {nm : String} {cells slots pc pc2 : Nat} {Q : State → Prop} {lo : List (Option Value)} {st : List Value} {n : Nat} {K : wKd} {I : wIn} {J : wJn} {L : wLn} {R : wRf}
theorem z_iadd (C : Cx Γ own cc nL ret rm nm) {x y : Int} (hd : decode cc pc = .ok (.iadd, 1)) (hp : pc + 1 = pc2) (k : wp Γ cells slots Q pc2 lo (.int (iI (x + y)) :: st) n K I L R) : wp Γ cells slots Q pc lo (.int (iI y) :: .int (iI x) :: st) n K I L R := w_iadd C hd hp (by rw [iI_add]; exact k)
theorem z_isub (C : Cx Γ own cc nL ret rm nm) {x y : Int} (hd : decode cc pc = .ok (.isub, 1)) (hp : pc + 1 = pc2) (k : wp Γ cells slots Q pc2 lo (.int (iI (x - y)) :: st) n K I L R) : wp Γ cells slots Q pc lo (.int (iI y) :: .int (iI x) :: st) n K I L R := w_isub C hd hp (by rw [iI_sub]; exact k)
theorem z_imul (C : Cx Γ own cc nL ret rm nm) {x y : Int} (hd : decode cc pc = .ok (.imul, 1)) (hp : pc + 1 = pc2) (k : wp Γ cells slots Q pc2 lo (.int (iI (x * y)) :: st) n K I L R) : wp Γ cells slots Q pc lo (.int (iI y) :: .int (iI x) :: st) n K I L R := w_imul C hd hp (by rw [iI_mul]; exact k)
theorem z_ineg (C : Cx Γ own cc nL ret rm nm) {x : Int} (hd : decode cc pc = .ok (.ineg, 1)) (hp : pc + 1 = pc2) (k : wp Γ cells slots Q pc2 lo (.int (iI (- x)) :: st) n K I L R) : wp Γ cells slots Q pc lo (.int (iI x) :: st) n K I L R := w_ineg C hd hp (by rw [iI_neg]; exact k)
theorem z_idiv (C : Cx Γ own cc nL ret rm nm) {x y : Int} (hd : decode cc pc = .ok (.idiv, 1)) (h : 0 ≤ x ∧ x < 2147483648 ∧ 0 < y ∧ y < 2147483648) (hp : pc + 1 = pc2) (k : wp Γ cells slots Q pc2 lo (.int (iI (x / y)) :: st) n K I L R) : wp Γ cells slots Q pc lo (.int (iI y) :: .int (iI x) :: st) n K I L R := w_idiv C hd (iI_ne0 (by omega) (by omega) (by omega)) hp (by rw [iI_div h.1 h.2.1 h.2.2.1 h.2.2.2]; exact k)
theorem z_irem (C : Cx Γ own cc nL ret rm nm) {x y : Int} (hd : decode cc pc = .ok (.irem, 1)) (h : 0 ≤ x ∧ x < 2147483648 ∧ 0 < y ∧ y < 2147483648) (hp : pc + 1 = pc2) (k : wp Γ cells slots Q pc2 lo (.int (iI (x % y)) :: st) n K I L R) : wp Γ cells slots Q pc lo (.int (iI y) :: .int (iI x) :: st) n K I L R := w_irem C hd (iI_ne0 (by omega) (by omega) (by omega)) hp (by rw [iI_rem h.1 h.2.1 h.2.2.1 h.2.2.2]; exact k)
theorem z_icmp_eq (C : Cx Γ own cc nL ret rm nm) {x y : Int} {off : Int} {tgt : Nat} (hd : decode cc pc = .ok (.if_icmp .eq off, 3)) (ht : (pc : Int) + off = (tgt : Int)) (hp : pc + 3 = pc2) (hx : R32 x) (hy : R32 y) (kt : (x = y) → wp Γ cells slots Q tgt lo st n K I L R) (kf : (¬ x = y) → wp Γ cells slots Q pc2 lo st n K I L R) : wp Γ cells slots Q pc lo (.int (iI y) :: .int (iI x) :: st) n K I L R := w_icmp_eq C hd ht hp (fun c => kt ((iI_eq hx.1 hx.2 hy.1 hy.2).mp c)) (fun c => kf (fun q => c ((iI_eq hx.1 hx.2 hy.1 hy.2).mpr q)))
theorem z_icmp_ne (C : Cx Γ own cc nL ret rm nm) {x y : Int} {off : Int} {tgt : Nat} (hd : decode cc pc = .ok (.if_icmp .ne off, 3)) (ht : (pc : Int) + off = (tgt : Int)) (hp : pc + 3 = pc2) (hx : R32 x) (hy : R32 y) (kt : (¬ x = y) → wp Γ cells slots Q tgt lo st n K I L R) (kf : (x = y) → wp Γ cells slots Q pc2 lo st n K I L R) : wp Γ cells slots Q pc lo (.int (iI y) :: .int (iI x) :: st) n K I L R := w_icmp_ne C hd ht hp (fun c => kt (fun q => c ((iI_eq hx.1 hx.2 hy.1 hy.2).mpr q))) (fun c => kf ((iI_eq hx.1 hx.2 hy.1 hy.2).mp c))
theorem z_icmp_lt (C : Cx Γ own cc nL ret rm nm) {x y : Int} {off : Int} {tgt : Nat} (hd : decode cc pc = .ok (.if_icmp .lt off, 3)) (ht : (pc : Int) + off = (tgt : Int)) (hp : pc + 3 = pc2) (hx : R32 x) (hy : R32 y) (kt : (x < y) → wp Γ cells slots Q tgt lo st n K I L R) (kf : (¬ x < y) → wp Γ cells slots Q pc2 lo st n K I L R) : wp Γ cells slots Q pc lo (.int (iI y) :: .int (iI x) :: st) n K I L R := w_icmp_lt C hd ht hp (fun c => kt ((iI_lt hx.1 hx.2 hy.1 hy.2).mp c)) (fun c => kf (fun q => c ((iI_lt hx.1 hx.2 hy.1 hy.2).mpr q)))
theorem z_icmp_ge (C : Cx Γ own cc nL ret rm nm) {x y : Int} {off : Int} {tgt : Nat} (hd : decode cc pc = .ok (.if_icmp .ge off, 3)) (ht : (pc : Int) + off = (tgt : Int)) (hp : pc + 3 = pc2) (hx : R32 x) (hy : R32 y) (kt : (y ≤ x) → wp Γ cells slots Q tgt lo st n K I L R) (kf : (¬ y ≤ x) → wp Γ cells slots Q pc2 lo st n K I L R) : wp Γ cells slots Q pc lo (.int (iI y) :: .int (iI x) :: st) n K I L R := w_icmp_ge C hd ht hp (fun c => kt ((iI_le hy.1 hy.2 hx.1 hx.2).mp c)) (fun c => kf (fun q => c ((iI_le hy.1 hy.2 hx.1 hx.2).mpr q)))
theorem z_icmp_gt (C : Cx Γ own cc nL ret rm nm) {x y : Int} {off : Int} {tgt : Nat} (hd : decode cc pc = .ok (.if_icmp .gt off, 3)) (ht : (pc : Int) + off = (tgt : Int)) (hp : pc + 3 = pc2) (hx : R32 x) (hy : R32 y) (kt : (y < x) → wp Γ cells slots Q tgt lo st n K I L R) (kf : (¬ y < x) → wp Γ cells slots Q pc2 lo st n K I L R) : wp Γ cells slots Q pc lo (.int (iI y) :: .int (iI x) :: st) n K I L R := w_icmp_gt C hd ht hp (fun c => kt ((iI_lt hy.1 hy.2 hx.1 hx.2).mp c)) (fun c => kf (fun q => c ((iI_lt hy.1 hy.2 hx.1 hx.2).mpr q)))
theorem z_icmp_le (C : Cx Γ own cc nL ret rm nm) {x y : Int} {off : Int} {tgt : Nat} (hd : decode cc pc = .ok (.if_icmp .le off, 3)) (ht : (pc : Int) + off = (tgt : Int)) (hp : pc + 3 = pc2) (hx : R32 x) (hy : R32 y) (kt : (x ≤ y) → wp Γ cells slots Q tgt lo st n K I L R) (kf : (¬ x ≤ y) → wp Γ cells slots Q pc2 lo st n K I L R) : wp Γ cells slots Q pc lo (.int (iI y) :: .int (iI x) :: st) n K I L R := w_icmp_le C hd ht hp (fun c => kt ((iI_le hx.1 hx.2 hy.1 hy.2).mp c)) (fun c => kf (fun q => c ((iI_le hx.1 hx.2 hy.1 hy.2).mpr q)))
theorem z_if_eq (C : Cx Γ own cc nL ret rm nm) {x : Int} {off : Int} {tgt : Nat} (hd : decode cc pc = .ok (.ifCond .eq off, 3)) (ht : (pc : Int) + off = (tgt : Int)) (hp : pc + 3 = pc2) (hx : R32 x) (kt : (x = 0) → wp Γ cells slots Q tgt lo st n K I L R) (kf : (¬ x = 0) → wp Γ cells slots Q pc2 lo st n K I L R) : wp Γ cells slots Q pc lo (.int (iI x) :: st) n K I L R := w_if_eq C hd ht hp (fun c => kt ((iI_eq (b := 0) hx.1 hx.2 (by omega) (by omega)).mp c)) (fun c => kf (fun q => c ((iI_eq (b := 0) hx.1 hx.2 (by omega) (by omega)).mpr q)))
theorem z_if_ne (C : Cx Γ own cc nL ret rm nm) {x : Int} {off : Int} {tgt : Nat} (hd : decode cc pc = .ok (.ifCond .ne off, 3)) (ht : (pc : Int) + off = (tgt : Int)) (hp : pc + 3 = pc2) (hx : R32 x) (kt : (¬ x = 0) → wp Γ cells slots Q tgt lo st n K I L R) (kf : (x = 0) → wp Γ cells slots Q pc2 lo st n K I L R) : wp Γ cells slots Q pc lo (.int (iI x) :: st) n K I L R := w_if_ne C hd ht hp (fun c => kt (fun q => c ((iI_eq (b := 0) hx.1 hx.2 (by omega) (by omega)).mpr q))) (fun c => kf ((iI_eq (b := 0) hx.1 hx.2 (by omega) (by omega)).mp c))
theorem z_if_lt (C : Cx Γ own cc nL ret rm nm) {x : Int} {off : Int} {tgt : Nat} (hd : decode cc pc = .ok (.ifCond .lt off, 3)) (ht : (pc : Int) + off = (tgt : Int)) (hp : pc + 3 = pc2) (hx : R32 x) (kt : (x < 0) → wp Γ cells slots Q tgt lo st n K I L R) (kf : (¬ x < 0) → wp Γ cells slots Q pc2 lo st n K I L R) : wp Γ cells slots Q pc lo (.int (iI x) :: st) n K I L R := w_if_lt C hd ht hp (fun c => kt ((iI_lt (b := 0) hx.1 hx.2 (by omega) (by omega)).mp c)) (fun c => kf (fun q => c ((iI_lt (b := 0) hx.1 hx.2 (by omega) (by omega)).mpr q)))
theorem z_if_ge (C : Cx Γ own cc nL ret rm nm) {x : Int} {off : Int} {tgt : Nat} (hd : decode cc pc = .ok (.ifCond .ge off, 3)) (ht : (pc : Int) + off = (tgt : Int)) (hp : pc + 3 = pc2) (hx : R32 x) (kt : (0 ≤ x) → wp Γ cells slots Q tgt lo st n K I L R) (kf : (¬ 0 ≤ x) → wp Γ cells slots Q pc2 lo st n K I L R) : wp Γ cells slots Q pc lo (.int (iI x) :: st) n K I L R := w_if_ge C hd ht hp (fun c => kt ((iI_le (a := 0) (by omega) (by omega) hx.1 hx.2).mp c)) (fun c => kf (fun q => c ((iI_le (a := 0) (by omega) (by omega) hx.1 hx.2).mpr q)))
theorem z_if_gt (C : Cx Γ own cc nL ret rm nm) {x : Int} {off : Int} {tgt : Nat} (hd : decode cc pc = .ok (.ifCond .gt off, 3)) (ht : (pc : Int) + off = (tgt : Int)) (hp : pc + 3 = pc2) (hx : R32 x) (kt : (0 < x) → wp Γ cells slots Q tgt lo st n K I L R) (kf : (¬ 0 < x) → wp Γ cells slots Q pc2 lo st n K I L R) : wp Γ cells slots Q pc lo (.int (iI x) :: st) n K I L R := w_if_gt C hd ht hp (fun c => kt ((iI_lt (a := 0) (by omega) (by omega) hx.1 hx.2).mp c)) (fun c => kf (fun q => c ((iI_lt (a := 0) (by omega) (by omega) hx.1 hx.2).mpr q)))
theorem z_if_le (C : Cx Γ own cc nL ret rm nm) {x : Int} {off : Int} {tgt : Nat} (hd : decode cc pc = .ok (.ifCond .le off, 3)) (ht : (pc : Int) + off = (tgt : Int)) (hp : pc + 3 = pc2) (hx : R32 x) (kt : (x ≤ 0) → wp Γ cells slots Q tgt lo st n K I L R) (kf : (¬ x ≤ 0) → wp Γ cells slots Q pc2 lo st n K I L R) : wp Γ cells slots Q pc lo (.int (iI x) :: st) n K I L R := w_if_le C hd ht hp (fun c => kt ((iI_le (b := 0) hx.1 hx.2 (by omega) (by omega)).mp c)) (fun c => kf (fun q => c ((iI_le (b := 0) hx.1 hx.2 (by omega) (by omega)).mpr q)))
theorem z_getI (C : Cx Γ own cc nL ret rm nm) {idx ci k i m : Nat} {ty : FieldType} (hd : decode cc pc = .ok (.getfield idx, 3)) (hf : FLk own idx ci k 0 ty) (hk : K i = (ci, m)) (hp : pc + 3 = pc2) (kk : wp Γ cells slots Q pc2 lo (.int (iI (J i k)) :: st) n K (zw J) L R) : wp Γ cells slots Q pc lo (.ref i :: st) n K (zw J) L R := w_getI C hd hf hk hp kk
theorem z_putI (C : Cx Γ own cc nL ret rm nm) {idx ci k i m : Nat} {x : Int} {ty : FieldType} (hd : decode cc pc = .ok (.putfield idx, 3)) (hf : FLk own idx ci k 0 ty) (hk : K i = (ci, m)) (hn : narrow ty (.int (iI x)) = .int (iI x)) (hfit : fits ty (.int (iI x)) = true) (hp : pc + 3 = pc2) (kk : wp Γ cells slots Q pc2 lo st n K (zw (up2 J i k x)) L R) : wp Γ cells slots Q pc lo (.int (iI x) :: .ref i :: st) n K (zw J) L R := w_putI C hd hf hk hn hfit hp (by rw [zw_up]; exact kk)
theorem z_putX (C : Cx Γ own cc nL ret rm nm) {idx ci k i m : Nat} {x : Int32} {ty : FieldType} (hd : decode cc pc = .ok (.putfield idx, 3)) (hf : FLk own idx ci k 0 ty) (hk : K i = (ci, m)) (hn : narrow ty (.int x) = .int x) (hfit : fits ty (.int x) = true) (hp : pc + 3 = pc2) (kk : wp Γ cells slots Q pc2 lo st n K (zw (up2 J i k x.toInt)) L R) : wp Γ cells slots Q pc lo (.int x :: .ref i :: st) n K (zw J) L R := w_putI C hd hf hk hn hfit hp (by rw [zw_upR]; exact kk)
theorem z_iald (C : Cx Γ own cc nL ret rm nm) {i m j : Nat} {a : Int} (hd : decode cc pc = .ok (.iaload, 1)) (hk : K i = (100, m)) (hx : a = j) (hj : j < m) (hm : m < 2 ^ 31) (hp : pc + 1 = pc2) (kk : wp Γ cells slots Q pc2 lo (.int (iI (J i j)) :: st) n K (zw J) L R) : wp Γ cells slots Q pc lo (.int (iI a) :: .ref i :: st) n K (zw J) L R := w_iald C hd hk (iI_n hx) hj hm hp kk
theorem z_bald (C : Cx Γ own cc nL ret rm nm) {i m j : Nat} {a : Int} (hd : decode cc pc = .ok (.baload, 1)) (hk : K i = (101, m)) (hx : a = j) (hj : j < m) (hm : m < 2 ^ 31) (hp : pc + 1 = pc2) (kk : wp Γ cells slots Q pc2 lo (.int (iI (J i j)) :: st) n K (zw J) L R) : wp Γ cells slots Q pc lo (.int (iI a) :: .ref i :: st) n K (zw J) L R := w_bald C hd hk (iI_n hx) hj hm hp kk
theorem z_zald (C : Cx Γ own cc nL ret rm nm) {i m j : Nat} {a : Int} (hd : decode cc pc = .ok (.baload, 1)) (hk : K i = (102, m)) (hx : a = j) (hj : j < m) (hm : m < 2 ^ 31) (hp : pc + 1 = pc2) (kk : wp Γ cells slots Q pc2 lo (.int (iI (J i j)) :: st) n K (zw J) L R) : wp Γ cells slots Q pc lo (.int (iI a) :: .ref i :: st) n K (zw J) L R := w_zald C hd hk (iI_n hx) hj hm hp kk
theorem z_lald (C : Cx Γ own cc nL ret rm nm) {i m j : Nat} {a : Int} (hd : decode cc pc = .ok (.laload, 1)) (hk : K i = (103, m)) (hx : a = j) (hj : j < m) (hm : m < 2 ^ 31) (hp : pc + 1 = pc2) (kk : wp Γ cells slots Q pc2 lo (.long (L i j) :: st) n K I L R) : wp Γ cells slots Q pc lo (.int (iI a) :: .ref i :: st) n K I L R := w_lald C hd hk (iI_n hx) hj hm hp kk
theorem z_aald (C : Cx Γ own cc nL ret rm nm) {i t m j : Nat} {a : Int} (hd : decode cc pc = .ok (.aaload, 1)) (hk : K i = (t, m)) (ht : t = 104 ∨ t = 105) (hx : a = j) (hj : j < m) (hm : m < 2 ^ 31) (hp : pc + 1 = pc2) (kk : wp Γ cells slots Q pc2 lo (va_rf (R i j) :: st) n K I L R) : wp Γ cells slots Q pc lo (.int (iI a) :: .ref i :: st) n K I L R := w_aald C hd hk ht (iI_n hx) hj hm hp kk
theorem z_iast (C : Cx Γ own cc nL ret rm nm) {i m j : Nat} {a y : Int} (hd : decode cc pc = .ok (.iastore, 1)) (hk : K i = (100, m)) (hx : a = j) (hj : j < m) (hm : m < 2 ^ 31) (hp : pc + 1 = pc2) (kk : wp Γ cells slots Q pc2 lo st n K (zw (up2 J i j y)) L R) : wp Γ cells slots Q pc lo (.int (iI y) :: .int (iI a) :: .ref i :: st) n K (zw J) L R := w_iast C hd hk (iI_n hx) hj hm hp (by rw [zw_up]; exact kk)
theorem z_iastX (C : Cx Γ own cc nL ret rm nm) {i m j : Nat} {a : Int} {y : Int32} (hd : decode cc pc = .ok (.iastore, 1)) (hk : K i = (100, m)) (hx : a = j) (hj : j < m) (hm : m < 2 ^ 31) (hp : pc + 1 = pc2) (kk : wp Γ cells slots Q pc2 lo st n K (zw (up2 J i j y.toInt)) L R) : wp Γ cells slots Q pc lo (.int y :: .int (iI a) :: .ref i :: st) n K (zw J) L R := w_iast C hd hk (iI_n hx) hj hm hp (by rw [zw_upR]; exact kk)
theorem z_bast (C : Cx Γ own cc nL ret rm nm) {i m j : Nat} {a : Int} {y : Int32} (hd : decode cc pc = .ok (.bastore, 1)) (hk : K i = (101, m)) (hx : a = j) (hj : j < m) (hm : m < 2 ^ 31) (hp : pc + 1 = pc2) (kk : wp Γ cells slots Q pc2 lo st n K (zw (up2 J i j (vp_nar .byte y).toInt)) L R) : wp Γ cells slots Q pc lo (.int y :: .int (iI a) :: .ref i :: st) n K (zw J) L R := w_bast C hd hk (iI_n hx) hj hm hp (by rw [zw_upR]; exact kk)
theorem z_zast (C : Cx Γ own cc nL ret rm nm) {i m j : Nat} {a : Int} {y : Int32} (hd : decode cc pc = .ok (.bastore, 1)) (hk : K i = (102, m)) (hx : a = j) (hj : j < m) (hm : m < 2 ^ 31) (hp : pc + 1 = pc2) (kk : wp Γ cells slots Q pc2 lo st n K (zw (up2 J i j (vp_nar .boolean y).toInt)) L R) : wp Γ cells slots Q pc lo (.int y :: .int (iI a) :: .ref i :: st) n K (zw J) L R := w_zast C hd hk (iI_n hx) hj hm hp (by rw [zw_upR]; exact kk)
theorem z_last (C : Cx Γ own cc nL ret rm nm) {i m j : Nat} {a : Int} {y : Int64} (hd : decode cc pc = .ok (.lastore, 1)) (hk : K i = (103, m)) (hx : a = j) (hj : j < m) (hm : m < 2 ^ 31) (hp : pc + 1 = pc2) (kk : wp Γ cells slots Q pc2 lo st n K I (up2 L i j y) R) : wp Γ cells slots Q pc lo (.long y :: .int (iI a) :: .ref i :: st) n K I L R := w_last C hd hk (iI_n hx) hj hm hp kk
theorem z_aast (C : Cx Γ own cc nL ret rm nm) {i m j v m2 : Nat} {a : Int} (hd : decode cc pc = .ok (.aastore, 1)) (hk : K i = (104, m)) (hkv : K v = (2, m2)) (hx : a = j) (hj : j < m) (hm : m < 2 ^ 31) (hp : pc + 1 = pc2) (kk : wp Γ cells slots Q pc2 lo st n K I L (up2 R i j (some v))) : wp Γ cells slots Q pc lo (.ref v :: .int (iI a) :: .ref i :: st) n K I L R := w_aast C hd hk hkv (iI_n hx) hj hm hp kk
theorem z_mmax (C : Cx Γ own cc nL ret rm nm) {idx : Nat} {x y : Int} (hd : decode cc pc = .ok (.invokestatic idx, 3)) (hl1 : Cond.methodLink own idx Lib.Math.max.name ∈ tg) (hl2 : Cond.static Lib.Math.max.name ∈ tg) (hl3 : Cond.initialized "java/lang/Math" ∈ tg) (hl4 : Cond.code Lib.Math.max.name Lib.Math.max.code 2 (some .int) ∈ tg) (hfr : 1 ≤ rm.frames) (hlo : (st.map fun v => v.category).sum + 13 ≤ rm.locals) (hc : cells ≤ rm.cells) (hs : slots ≤ rm.slots) (hp : pc + 3 = pc2) (hx : R32 x) (hy : R32 y) (kk : wp Γ cells slots Q pc2 lo (.int (iI (max x y)) :: st) n K I L R) : wp Γ cells slots Q pc lo (.int (iI y) :: .int (iI x) :: st) n K I L R := w_mmax C hd hl1 hl2 hl3 hl4 hfr hlo hc hs hp (by rw [iI_max hx.1 hx.2 hy.1 hy.2]; exact kk)
theorem z_mmin (C : Cx Γ own cc nL ret rm nm) {idx : Nat} {x y : Int} (hd : decode cc pc = .ok (.invokestatic idx, 3)) (hl1 : Cond.methodLink own idx Lib.Math.min.name ∈ tg) (hl2 : Cond.static Lib.Math.min.name ∈ tg) (hl3 : Cond.initialized "java/lang/Math" ∈ tg) (hl4 : Cond.code Lib.Math.min.name Lib.Math.min.code 2 (some .int) ∈ tg) (hfr : 1 ≤ rm.frames) (hlo : (st.map fun v => v.category).sum + 13 ≤ rm.locals) (hc : cells ≤ rm.cells) (hs : slots ≤ rm.slots) (hp : pc + 3 = pc2) (hx : R32 x) (hy : R32 y) (kk : wp Γ cells slots Q pc2 lo (.int (iI (min x y)) :: st) n K I L R) : wp Γ cells slots Q pc lo (.int (iI y) :: .int (iI x) :: st) n K I L R := w_mmin C hd hl1 hl2 hl3 hl4 hfr hlo hc hs hp (by rw [iI_min hx.1 hx.2 hy.1 hy.2]; exact kk)
theorem z_mabs (C : Cx Γ own cc nL ret rm nm) {idx : Nat} {x : Int} (hd : decode cc pc = .ok (.invokestatic idx, 3)) (hl1 : Cond.methodLink own idx Lib.Math.abs.name ∈ tg) (hl2 : Cond.static Lib.Math.abs.name ∈ tg) (hl3 : Cond.initialized "java/lang/Math" ∈ tg) (hl4 : Cond.code Lib.Math.abs.name Lib.Math.abs.code 1 (some .int) ∈ tg) (hfr : 1 ≤ rm.frames) (hlo : (st.map fun v => v.category).sum + 13 ≤ rm.locals) (hc : cells ≤ rm.cells) (hs : slots ≤ rm.slots) (hp : pc + 3 = pc2) (hx : -2147483647 ≤ x ∧ x < 2147483648) (kk : wp Γ cells slots Q pc2 lo (.int (iI x.natAbs) :: st) n K I L R) : wp Γ cells slots Q pc lo (.int (iI x) :: st) n K I L R := w_mabs C hd hl1 hl2 hl3 hl4 hfr hlo hc hs hp (by rw [iI_abs hx.1 hx.2]; exact kk)
end ZR
end
section
section SW
variable {Γ : Gm} {own : String} {cc : ByteArray} {nL : Nat} {ret : Option FieldType} {rm : Room} {nm : String} {cells slots pc pc2 : Nat} {Q : State → Prop} {lo : List (Option Value)} {st : List Value} {n : Nat} {K : wKd} {I : wIn} {J : wJn} {L : wLn} {R : wRf}
theorem z_look01 (C : Cx Γ own cc nL ret rm nm) {x dflt o0 o1 : Int} {len t0 t1 td : Nat} (hd : decode cc pc = .ok (.lookupswitch dflt #[(0, o0), (1, o1)], len)) (h0 : (pc : Int) + o0 = (t0 : Int)) (h1 : (pc : Int) + o1 = (t1 : Int)) (h2 : (pc : Int) + dflt = (td : Int)) (hx : R32 x) (k0 : x = 0 → wp Γ cells slots Q t0 lo st n K I L R) (k1 : x = 1 → wp Γ cells slots Q t1 lo st n K I L R) (k2 : ¬ x = 0 ∧ ¬ x = 1 → wp Γ cells slots Q td lo st n K I L R) : wp Γ cells slots Q pc lo (.int (iI x) :: st) n K I L R := by
  have e := iI_toInt hx.1 hx.2
  by_cases q0 : x = 0
  · exact w_lookup C hd (by simp) (off := o0) (by rw [e, q0]; simp [Op.lookupswitch.offset]) h0 (k0 q0)
  · by_cases q1 : x = 1
    · exact w_lookup C hd (by simp) (off := o1) (by rw [e, q1]; simp [Op.lookupswitch.offset]) h1 (k1 q1)
    · exact w_lookup C hd (by simp) (off := dflt) (by rw [e]; simp [Op.lookupswitch.offset, q0, q1, Ne.symm q0, Ne.symm q1]) h2 (k2 ⟨q0, q1⟩)
theorem z_tab3 (C : Cx Γ own cc nL ret rm nm) {x dflt o0 o1 o2 : Int} {len t0 t1 t2 td : Nat} (hd : decode cc pc = .ok (.tableswitch dflt 0 2 #[o0, o1, o2], len)) (h0 : (pc : Int) + o0 = (t0 : Int)) (h1 : (pc : Int) + o1 = (t1 : Int)) (h2 : (pc : Int) + o2 = (t2 : Int)) (h3 : (pc : Int) + dflt = (td : Int)) (hx : R32 x) (k0 : x = 0 → wp Γ cells slots Q t0 lo st n K I L R) (k1 : x = 1 → wp Γ cells slots Q t1 lo st n K I L R) (k2 : x = 2 → wp Γ cells slots Q t2 lo st n K I L R) (k3 : x < 0 ∨ 2 < x → wp Γ cells slots Q td lo st n K I L R) : wp Γ cells slots Q pc lo (.int (iI x) :: st) n K I L R := by
  have e := iI_toInt hx.1 hx.2
  by_cases q : x < 0 ∨ 2 < x
  · exact w_tableOut C hd (by rw [e]; exact q) h3 (k3 q)
  · have q3 : x = 0 ∨ x = 1 ∨ x = 2 := by omega
    rcases q3 with q3 | q3 | q3
    · exact w_tableIn C hd (by rw [e]; omega) (by rw [e]; omega) (off := o0) (by rw [e, q3]; rfl) h0 (k0 q3)
    · exact w_tableIn C hd (by rw [e]; omega) (by rw [e]; omega) (off := o1) (by rw [e, q3]; rfl) h1 (k1 q3)
    · exact w_tableIn C hd (by rw [e]; omega) (by rw [e]; omega) (off := o2) (by rw [e, q3]; rfl) h2 (k2 q3)
theorem lg_cmp_lt0 (x y : Int64) : lg_cmp x y = iI (if y < x then 1 else if x = y then 0 else -1) := by
  unfold lg_cmp
  by_cases h : y < x
  · simp [h, iI_1]
  · by_cases h2 : x = y
    · simp [h2, iI_0]
    · simp [h, h2, iI_m1]
end SW
end
section
/-! ===== small methods of the class ===== -/
section SMALL
variable {n : Nat} {K : wKd} {J : wJn} {L : wLn} {R : wRf}
theorem s_X7_hasRoom (hy : Ly K R) (hb : R32 (J 1 1)) (h0 : 0 ≤ J 1 1 ∧ J 1 1 ≤ 1000) : S_X7_hasRoom [.ref 1] n K (zw J) L R (Det (some (.int (iI (if J 1 1 + 20 ≤ 1000 then 1 else 0)))) n K (zw J) L R) := by
  refine Sp_intro [some (.ref 1)] rfl rfl (Nat.le_of_ble_eq_true rfl) rfl ?_
  intro Γ C
  replace C : C_X7_hasRoom Γ := C
  refine w_aload_n (pc2 := 1) C dX7_hasRoom_0 rfl rfl ?_
  refine z_getI (pc2 := 4) C dX7_hasRoom_1 fl_X7_15 (by first | exact hy.k _ | assumption) rfl ?_
  refine w_bipush (pc2 := 6) (v := iI 20) C dX7_hasRoom_4 (by decide) rfl ?_
  refine z_iadd (pc2 := 7) C dX7_hasRoom_6 rfl ?_
  refine w_sipush (pc2 := 10) (v := iI 1000) C dX7_hasRoom_7 (by decide) rfl ?_
  -- at 10: .if_icmp .gt 7
  refine z_icmp_gt (pc2 := 13) (tgt := 17) C dX7_hasRoom_10 (by decide) rfl (by omega) (by omega) (fun hb => ?_) (fun hb => ?_)
  · skip
    refine w_iconst (pc2 := 18) (v := iI 0) C dX7_hasRoom_17 (by decide) rfl ?_
    -- at 18: .ireturn
    exact w_zret C dX7_hasRoom_18 (Or.inl rfl) (by decide) (by decide) (DetI (by rw [if_neg (by omega)]) rfl)
  · skip
    refine w_iconst (pc2 := 14) (v := iI 1) C dX7_hasRoom_13 (by decide) rfl ?_
    refine w_goto (tgt := 18) C dX7_hasRoom_14 (by decide) ?_
    -- at 18: .ireturn
    exact w_zret C dX7_hasRoom_18 (Or.inr rfl) (by decide) (by decide) (DetI (by rw [if_pos (by omega)]) rfl)
theorem s_X10_isBell {b : Int} (hb : R32 b) : S_X10_isBell [.int (iI b)] n K (zw J) L R (Det (some (.int (iI (if 0 ≤ b ∧ b < 24 then 1 else 0)))) n K (zw J) L R) := by
  refine Sp_intro [some (.int (iI b))] rfl rfl (Nat.le_of_ble_eq_true rfl) rfl ?_
  intro Γ C
  replace C : C_X10_isBell Γ := C
  refine w_iload_n (pc2 := 1) C dX10_isBell_0 rfl rfl ?_
  -- at 1: .ifCond .lt 13
  refine z_if_lt (pc2 := 4) (tgt := 14) C dX10_isBell_1 (by decide) rfl (by omega) (fun h1 => ?_) (fun h1 => ?_)
  · skip
    refine w_iconst (pc2 := 15) (v := iI 0) C dX10_isBell_14 (by decide) rfl ?_
    -- at 15: .ireturn
    exact w_zret C dX10_isBell_15 (Or.inl rfl) (by decide) (by decide) (DetI (by rw [if_neg (by omega)]) rfl)
  · skip
    refine w_iload_n (pc2 := 5) C dX10_isBell_4 rfl rfl ?_
    refine w_bipush (pc2 := 7) (v := iI 24) C dX10_isBell_5 (by decide) rfl ?_
    -- at 7: .if_icmp .ge 7
    refine z_icmp_ge (pc2 := 10) (tgt := 14) C dX10_isBell_7 (by decide) rfl (by omega) (by omega) (fun h2 => ?_) (fun h2 => ?_)
    · skip
      refine w_iconst (pc2 := 15) (v := iI 0) C dX10_isBell_14 (by decide) rfl ?_
      -- at 15: .ireturn
      exact w_zret C dX10_isBell_15 (Or.inl rfl) (by decide) (by decide) (DetI (by rw [if_neg (by omega)]) rfl)
    · skip
      refine w_iconst (pc2 := 11) (v := iI 1) C dX10_isBell_10 (by decide) rfl ?_
      refine w_goto (tgt := 15) C dX10_isBell_11 (by decide) ?_
      -- at 15: .ireturn
      exact w_zret C dX10_isBell_15 (Or.inr rfl) (by decide) (by decide) (DetI (by rw [if_pos (by omega)]) rfl)
theorem s_X5_has {b : Nat} (hk : K b = (5, 0)) {k : Int} (h : R32 k) (hs : R32 (J b 2)) : S_X5_has [.ref b, .int (iI k)] n K (zw J) L R (Det (some (.int (iI (if 0 ≤ k ∧ k < J b 2 then 1 else 0)))) n K (zw J) L R) := by
  refine Sp_intro [some (.ref b), some (.int (iI k))] rfl rfl (Nat.le_of_ble_eq_true rfl) rfl ?_
  intro Γ C
  replace C : C_X5_has Γ := C
  refine w_iload_n (pc2 := 1) C dX5_has_0 rfl rfl ?_
  -- at 1: .ifCond .lt 15
  refine z_if_lt (pc2 := 4) (tgt := 16) C dX5_has_1 (by decide) rfl (by omega) (fun h1 => ?_) (fun h1 => ?_)
  · skip
    refine w_iconst (pc2 := 17) (v := iI 0) C dX5_has_16 (by decide) rfl ?_
    -- at 17: .ireturn
    exact w_zret C dX5_has_17 (Or.inl rfl) (by decide) (by decide) (DetI (by rw [if_neg (by omega)]) rfl)
  · skip
    refine w_iload_n (pc2 := 5) C dX5_has_4 rfl rfl ?_
    refine w_aload_n (pc2 := 6) C dX5_has_5 rfl rfl ?_
    refine z_getI (pc2 := 9) C dX5_has_6 fl_X5_18 (by first | exact hy.k _ | assumption) rfl ?_
    -- at 9: .if_icmp .ge 7
    refine z_icmp_ge (pc2 := 12) (tgt := 16) C dX5_has_9 (by decide) rfl (by omega) (by omega) (fun h2 => ?_) (fun h2 => ?_)
    · skip
      refine w_iconst (pc2 := 17) (v := iI 0) C dX5_has_16 (by decide) rfl ?_
      -- at 17: .ireturn
      exact w_zret C dX5_has_17 (Or.inl rfl) (by decide) (by decide) (DetI (by rw [if_neg (by omega)]) rfl)
    · skip
      refine w_iconst (pc2 := 13) (v := iI 1) C dX5_has_12 (by decide) rfl ?_
      refine w_goto (tgt := 17) C dX5_has_13 (by decide) ?_
      -- at 17: .ireturn
      exact w_zret C dX5_has_17 (Or.inr rfl) (by decide) (by decide) (DetI (by rw [if_pos (by omega)]) rfl)
theorem s_X10_end (hy : Ly K R) {a : Int} (ha : R32 a) (hb : R32 (J 1 1)) : S_X10_end [.ref 0, .int (iI a)] n K (zw J) L R (Det (some (.int (iI (if 0 ≤ a ∧ a ≤ J 1 1 then 1 else 0)))) n K (zw (if 0 ≤ a ∧ a ≤ J 1 1 then up2 J 1 1 a else J)) L R) := by
  refine Sp_intro [some (.ref 0), some (.int (iI a))] rfl rfl (Nat.le_of_ble_eq_true rfl) rfl ?_
  intro Γ C
  replace C : C_X10_end Γ := C
  refine w_iload_n (pc2 := 1) C dX10_end_0 rfl rfl ?_
  -- at 1: .ifCond .lt 14
  refine z_if_lt (pc2 := 4) (tgt := 15) C dX10_end_1 (by decide) rfl (by omega) (fun h1 => ?_) (fun h1 => ?_)
  · skip
    refine w_iconst (pc2 := 16) (v := iI 0) C dX10_end_15 (by decide) rfl ?_
    -- at 16: .ireturn
    exact w_zret C dX10_end_16 (Or.inl rfl) (by decide) (by decide) (DetI (by rw [if_neg (by omega)]) (by rw [if_neg (by omega)]))
  · skip
    refine w_iload_n (pc2 := 5) C dX10_end_4 rfl rfl ?_
    refine w_aload_n (pc2 := 6) C dX10_end_5 rfl rfl ?_
    refine w_getR (pc2 := 9) C dX10_end_6 fl_X10_10 (by first | exact hy.k _ | assumption) (by first | exact hy.r _ _ | assumption) rfl ?_
    refine z_getI (pc2 := 12) C dX10_end_9 fl_X10_75 (by first | exact hy.k _ | assumption) rfl ?_
    -- at 12: .if_icmp .le 5
    refine z_icmp_le (pc2 := 15) (tgt := 17) C dX10_end_12 (by decide) rfl (by omega) (by omega) (fun h2 => ?_) (fun h2 => ?_)
    · skip
      refine w_aload_n (pc2 := 18) C dX10_end_17 rfl rfl ?_
      refine w_getR (pc2 := 21) C dX10_end_18 fl_X10_10 (by first | exact hy.k _ | assumption) (by first | exact hy.r _ _ | assumption) rfl ?_
      refine w_iload_n (pc2 := 22) C dX10_end_21 rfl rfl ?_
      refine z_putI (pc2 := 25) C dX10_end_22 fl_X10_75 (by first | exact hy.k _ | assumption) (by rfl) (by rfl) rfl ?_
      refine w_iconst (pc2 := 26) (v := iI 1) C dX10_end_25 (by decide) rfl ?_
      -- at 26: .ireturn
      exact w_zret C dX10_end_26 (Or.inr rfl) (by decide) (by decide) (DetI (by rw [if_pos (by omega)]) (by rw [if_pos (by omega)]))
    · skip
      refine w_iconst (pc2 := 16) (v := iI 0) C dX10_end_15 (by decide) rfl ?_
      -- at 16: .ireturn
      exact w_zret C dX10_end_16 (Or.inl rfl) (by decide) (by decide) (DetI (by rw [if_neg (by omega)]) (by rw [if_neg (by omega)]))
theorem s_X10_fault (hy : Ly K R) {a : Int} (ha : R32 a) : S_X10_fault [.ref 0, .int (iI a)] n K (zw J) L R (Det (some (.int (iI (if a = 0 then J 11 4 else if a = 1 then J 11 5 else -1)))) n K (zw J) L R) := by
  refine Sp_intro [some (.ref 0), some (.int (iI a))] rfl rfl (Nat.le_of_ble_eq_true rfl) rfl ?_
  intro Γ C
  replace C : C_X10_fault Γ := C
  refine w_iload_n (pc2 := 1) C dX10_fault_0 rfl rfl ?_
  -- at 1: .lookupswitch 43 #[(0, 27), (1, 35)]
  refine z_look01 (t0 := 28) (t1 := 36) (td := 44) C dX10_fault_1 (by decide) (by decide) (by decide) (by omega) (fun h1 => ?_) (fun h1 => ?_) (fun h1 => ?_)
  · skip
    refine w_aload_n (pc2 := 29) C dX10_fault_28 rfl rfl ?_
    refine w_getR (pc2 := 32) C dX10_fault_29 fl_X10_28 (by first | exact hy.k _ | assumption) (by first | exact hy.r _ _ | assumption) rfl ?_
    refine z_getI (pc2 := 35) C dX10_fault_32 fl_X10_85 (by first | exact hy.k _ | assumption) rfl ?_
    -- at 35: .ireturn
    exact w_iret C dX10_fault_35 (by decide) (by decide) (DetI (by rw [if_pos h1]) rfl)
  · skip
    refine w_aload_n (pc2 := 37) C dX10_fault_36 rfl rfl ?_
    refine w_getR (pc2 := 40) C dX10_fault_37 fl_X10_28 (by first | exact hy.k _ | assumption) (by first | exact hy.r _ _ | assumption) rfl ?_
    refine z_getI (pc2 := 43) C dX10_fault_40 fl_X10_89 (by first | exact hy.k _ | assumption) rfl ?_
    -- at 43: .ireturn
    exact w_iret C dX10_fault_43 (by decide) (by decide) (DetI (by rw [if_neg (by omega), if_pos h1]) rfl)
  · skip
    refine w_iconst (pc2 := 45) (v := iI (-1)) C dX10_fault_44 (by decide) rfl ?_
    -- at 45: .ireturn
    exact w_iret C dX10_fault_45 (by decide) (by decide) (DetI (by rw [if_neg h1.1, if_neg h1.2]) rfl)
theorem s_X10_strike (hy : Ly K R) {k a : Int} (hk : R32 k) (ha : R32 a) (hc : 0 ≤ J 12 2 ∧ J 12 2 ≤ 100) : S_X10_strike [.ref 0, .int (iI k), .int (iI a)] n K (zw J) L R (Det (some (.int (iI (if 0 ≤ k ∧ k < J 12 2 then (if a = 0 then J 13 k.toNat else if a = 1 then J 14 k.toNat else -1) else -1)))) n K (zw J) L R) := by
  refine Sp_intro [some (.ref 0), some (.int (iI k)), some (.int (iI a))] rfl rfl (Nat.le_of_ble_eq_true rfl) rfl ?_
  intro Γ C
  replace C : C_X10_strike Γ := C
  refine w_aload_n (pc2 := 1) C dX10_strike_0 rfl rfl ?_
  refine w_getR (pc2 := 4) C dX10_strike_1 fl_X10_28 (by first | exact hy.k _ | assumption) (by first | exact hy.r _ _ | assumption) rfl ?_
  refine w_getR (pc2 := 7) C dX10_strike_4 fl_X10_38 (by first | exact hy.k _ | assumption) (by first | exact hy.r _ _ | assumption) rfl ?_
  refine w_iload_n (pc2 := 8) C dX10_strike_7 rfl rfl ?_
  -- at 8: .invokevirtual 99
  refine w_cVi (pc2 := 11)  C dX10_strike_8 mb_X10_99 mv_X5_has (s_X5_has (hy.k 12) hk (by omega)) (by first | exact hy.k _ | assumption) rfl (by decide) rfl rfl (Nat.le_of_ble_eq_true rfl) ⟨by decide, by decide⟩ ⟨rfl, rfl⟩ ⟨by decide, by decide⟩ rfl ?_
  -- at 11: .ifCond .ne 5
  refine z_if_ne (pc2 := 14) (tgt := 16) C dX10_strike_11 (by decide) rfl (by split <;> omega) (fun h1 => ?_) (fun h1 => ?_)
  · have h2 : 0 ≤ k ∧ k < J 12 2 := by
      rcases Decidable.em (0 ≤ k ∧ k < J 12 2) with q | q
      · exact q
      · rw [if_neg q] at h1; exact absurd rfl h1
    refine w_iload_n (pc2 := 17) C dX10_strike_16 rfl rfl ?_
    -- at 17: .lookupswitch 53 #[(0, 27), (1, 40)]
    refine z_look01 (t0 := 44) (t1 := 57) (td := 70) C dX10_strike_17 (by decide) (by decide) (by decide) (by omega) (fun h3 => ?_) (fun h3 => ?_) (fun h3 => ?_)
    · skip
      refine w_aload_n (pc2 := 45) C dX10_strike_44 rfl rfl ?_
      refine w_getR (pc2 := 48) C dX10_strike_45 fl_X10_28 (by first | exact hy.k _ | assumption) (by first | exact hy.r _ _ | assumption) rfl ?_
      refine w_getR (pc2 := 51) C dX10_strike_48 fl_X10_38 (by first | exact hy.k _ | assumption) (by first | exact hy.r _ _ | assumption) rfl ?_
      refine w_getR (pc2 := 54) C dX10_strike_51 fl_X10_103 (by first | exact hy.k _ | assumption) (by first | exact hy.r _ _ | assumption) rfl ?_
      refine w_iload_n (pc2 := 55) C dX10_strike_54 rfl rfl ?_
      -- at 55: .iaload
      refine z_iald (pc2 := 56) (j := k.toNat) C dX10_strike_55 (by first | exact hy.k _ | assumption) (by omega) (by omega) (by decide) rfl ?_
      exact w_iret C dX10_strike_56 (by decide) (by decide) (DetI (by rw [if_pos h2, if_pos h3]) rfl)
    · skip
      refine w_aload_n (pc2 := 58) C dX10_strike_57 rfl rfl ?_
      refine w_getR (pc2 := 61) C dX10_strike_58 fl_X10_28 (by first | exact hy.k _ | assumption) (by first | exact hy.r _ _ | assumption) rfl ?_
      refine w_getR (pc2 := 64) C dX10_strike_61 fl_X10_38 (by first | exact hy.k _ | assumption) (by first | exact hy.r _ _ | assumption) rfl ?_
      refine w_getR (pc2 := 67) C dX10_strike_64 fl_X10_107 (by first | exact hy.k _ | assumption) (by first | exact hy.r _ _ | assumption) rfl ?_
      refine w_iload_n (pc2 := 68) C dX10_strike_67 rfl rfl ?_
      -- at 68: .iaload
      refine z_iald (pc2 := 69) (j := k.toNat) C dX10_strike_68 (by first | exact hy.k _ | assumption) (by omega) (by omega) (by decide) rfl ?_
      exact w_iret C dX10_strike_69 (by decide) (by decide) (DetI (by rw [if_pos h2, if_neg (by omega), if_pos h3]) rfl)
    · skip
      refine w_iconst (pc2 := 71) (v := iI (-1)) C dX10_strike_70 (by decide) rfl ?_
      -- at 71: .ireturn
      exact w_iret C dX10_strike_71 (by decide) (by decide) (DetI (by rw [if_pos h2, if_neg h3.1, if_neg h3.2]) rfl)
  · have h2 : ¬ (0 ≤ k ∧ k < J 12 2) := by
      intro q
      rw [if_pos q] at h1; exact absurd h1 (by decide)
    refine w_iconst (pc2 := 15) (v := iI (-1)) C dX10_strike_14 (by decide) rfl ?_
    -- at 15: .ireturn
    exact w_iret C dX10_strike_15 (by decide) (by decide) (DetI (by rw [if_neg h2]) rfl)
theorem s_X10_fists (hy : Ly K R) {a b : Int} (ha : R32 a) (hb : R32 b) : S_X10_fists [.ref 0, .int (iI a), .int (iI b)] n K (zw J) L R (Det (some (.int (iI (if 1 ≤ a ∧ a ≤ 24 ∧ 0 ≤ b ∧ b ≤ 10000 then 1 else 0)))) n K (zw (if 1 ≤ a ∧ a ≤ 24 ∧ 0 ≤ b ∧ b ≤ 10000 then up2 (up2 (up2 J 11 6 a) 11 7 b) 0 7 0 else J)) L R) := by
  refine Sp_intro [some (.ref 0), some (.int (iI a)), some (.int (iI b))] rfl rfl (Nat.le_of_ble_eq_true rfl) rfl ?_
  intro Γ C
  replace C : C_X10_fists Γ := C
  refine w_iload_n (pc2 := 1) C dX10_fists_0 rfl rfl ?_
  refine w_iconst (pc2 := 2) (v := iI 1) C dX10_fists_1 (by decide) rfl ?_
  -- at 2: .if_icmp .lt 20
  refine z_icmp_lt (pc2 := 5) (tgt := 22) C dX10_fists_2 (by decide) rfl (by omega) (by omega) (fun h1 => ?_) (fun h1 => ?_)
  · skip
    refine w_iconst (pc2 := 23) (v := iI 0) C dX10_fists_22 (by decide) rfl ?_
    -- at 23: .ireturn
    exact w_zret C dX10_fists_23 (Or.inl rfl) (by decide) (by decide) (DetI (by rw [if_neg (by omega)]) (by rw [if_neg (by omega)]))
  · skip
    refine w_iload_n (pc2 := 6) C dX10_fists_5 rfl rfl ?_
    refine w_bipush (pc2 := 8) (v := iI 24) C dX10_fists_6 (by decide) rfl ?_
    -- at 8: .if_icmp .gt 14
    refine z_icmp_gt (pc2 := 11) (tgt := 22) C dX10_fists_8 (by decide) rfl (by omega) (by omega) (fun h2 => ?_) (fun h2 => ?_)
    · skip
      refine w_iconst (pc2 := 23) (v := iI 0) C dX10_fists_22 (by decide) rfl ?_
      -- at 23: .ireturn
      exact w_zret C dX10_fists_23 (Or.inl rfl) (by decide) (by decide) (DetI (by rw [if_neg (by omega)]) (by rw [if_neg (by omega)]))
    · skip
      refine w_iload_n (pc2 := 12) C dX10_fists_11 rfl rfl ?_
      -- at 12: .ifCond .lt 10
      refine z_if_lt (pc2 := 15) (tgt := 22) C dX10_fists_12 (by decide) rfl (by omega) (fun h3 => ?_) (fun h3 => ?_)
      · skip
        refine w_iconst (pc2 := 23) (v := iI 0) C dX10_fists_22 (by decide) rfl ?_
        -- at 23: .ireturn
        exact w_zret C dX10_fists_23 (Or.inl rfl) (by decide) (by decide) (DetI (by rw [if_neg (by omega)]) (by rw [if_neg (by omega)]))
      · skip
        refine w_iload_n (pc2 := 16) C dX10_fists_15 rfl rfl ?_
        refine w_sipush (pc2 := 19) (v := iI 10000) C dX10_fists_16 (by decide) rfl ?_
        -- at 19: .if_icmp .le 5
        refine z_icmp_le (pc2 := 22) (tgt := 24) C dX10_fists_19 (by decide) rfl (by omega) (by omega) (fun h4 => ?_) (fun h4 => ?_)
        · skip
          refine w_aload_n (pc2 := 25) C dX10_fists_24 rfl rfl ?_
          refine w_getR (pc2 := 28) C dX10_fists_25 fl_X10_28 (by first | exact hy.k _ | assumption) (by first | exact hy.r _ _ | assumption) rfl ?_
          refine w_iload_n (pc2 := 29) C dX10_fists_28 rfl rfl ?_
          refine z_putI (pc2 := 32) C dX10_fists_29 fl_X10_120 (by first | exact hy.k _ | assumption) (by rfl) (by rfl) rfl ?_
          refine w_aload_n (pc2 := 33) C dX10_fists_32 rfl rfl ?_
          refine w_getR (pc2 := 36) C dX10_fists_33 fl_X10_28 (by first | exact hy.k _ | assumption) (by first | exact hy.r _ _ | assumption) rfl ?_
          refine w_iload_n (pc2 := 37) C dX10_fists_36 rfl rfl ?_
          refine z_putI (pc2 := 40) C dX10_fists_37 fl_X10_123 (by first | exact hy.k _ | assumption) (by rfl) (by rfl) rfl ?_
          refine w_aload_n (pc2 := 41) C dX10_fists_40 rfl rfl ?_
          refine w_iconst (pc2 := 42) (v := iI 0) C dX10_fists_41 (by decide) rfl ?_
          refine z_putI (pc2 := 45) C dX10_fists_42 fl_X10_63 (by first | exact hy.k _ | assumption) (by rfl) (by rfl) rfl ?_
          refine w_iconst (pc2 := 46) (v := iI 1) C dX10_fists_45 (by decide) rfl ?_
          -- at 46: .ireturn
          exact w_zret C dX10_fists_46 (Or.inr rfl) (by decide) (by decide) (DetI (by rw [if_pos (by omega)]) (by rw [if_pos (by omega)]))
        · skip
          refine w_iconst (pc2 := 23) (v := iI 0) C dX10_fists_22 (by decide) rfl ?_
          -- at 23: .ireturn
          exact w_zret C dX10_fists_23 (Or.inl rfl) (by decide) (by decide) (DetI (by rw [if_neg (by omega)]) (by rw [if_neg (by omega)]))
end SMALL
end
section
/-! ===== more small methods of the class ===== -/
def anyN (p : Nat → Bool) : Nat → Bool
  | 0 => false
  | n + 1 => anyN p n || p n
theorem anyN_iff (p : Nat → Bool) : ∀ n, anyN p n = true ↔ ∃ k, k < n ∧ p k = true
  | 0 => by simp [anyN]
  | n + 1 => by
    simp only [anyN, Bool.or_eq_true, anyN_iff p n]
    constructor
    · rintro (⟨k, h1, h2⟩ | h)
      · exact ⟨k, by omega, h2⟩
      · exact ⟨n, by omega, h⟩
    · rintro ⟨k, h1, h2⟩
      by_cases e : k = n
      · subst e; exact Or.inr h2
      · exact Or.inl ⟨k, by omega, h2⟩
def cntN (p : Nat → Bool) : Nat → Nat
  | 0 => 0
  | n + 1 => cntN p n + (if p n = true then 1 else 0)
theorem cntN_le (p : Nat → Bool) : ∀ n, cntN p n ≤ n
  | 0 => Nat.le_refl 0
  | n + 1 => by
    have := cntN_le p n
    simp only [cntN]
    split <;> omega
theorem anyN_mono {p : Nat → Bool} {a b : Nat} (h : a ≤ b) (ha : anyN p a = true) : anyN p b = true := by
  obtain ⟨k, h1, h2⟩ := (anyN_iff p a).mp ha
  exact (anyN_iff p b).mpr ⟨k, by omega, h2⟩
/-- the d-th byte from below of a number, as a byte holds it -/
def bv (a : Int) (d : Nat) : Int := (vp_nar .byte ((iI a >>> (iI (8 * (d : Int)) &&& 31)).toInt8.toInt32)).toInt
def addN (a : Int) : Nat → wJn → wJn
  | 0, J => J
  | d + 1, J => addN a d (up2 (up2 J 2 (J 1 1).toNat (bv a d)) 1 1 (J 1 1 + 1))
section SMALL
variable {n : Nat} {K : wKd} {J : wJn} {L : wLn} {R : wRf}
theorem s_X10_tail (hy : Ly K R) {a b : Int} (ha : R32 a) (hb : R32 b) : S_X10_tail [.ref 0, .int (iI a), .int (iI b)] n K (zw J) L R (Det (some (.int (iI (if 0 ≤ a ∧ a < 24 ∧ 1 ≤ b ∧ b ≤ 60 then J 16 a.toNat else -1)))) n K (zw (if 0 ≤ a ∧ a < 24 ∧ 1 ≤ b ∧ b ≤ 60 then up2 J 16 a.toNat b else J)) L R) := by
  refine Sp_intro [some (.ref 0), some (.int (iI a)), some (.int (iI b)), none] rfl rfl (Nat.le_of_ble_eq_true rfl) rfl ?_
  intro Γ C
  replace C : C_X10_tail Γ := C
  refine w_iload_n (pc2 := 1) C dX10_tail_0 rfl rfl ?_
  -- at 1: .invokestatic 139
  refine w_cSi (pc2 := 4)  C dX10_tail_1 mb_X10_139 ms_X10_isBell (s_X10_isBell ha) rfl rfl (Nat.le_of_ble_eq_true rfl) ⟨by decide, by decide⟩ ⟨rfl, rfl⟩ ⟨by decide, by decide⟩ rfl ?_
  -- at 4: .ifCond .eq 14
  refine z_if_eq (pc2 := 7) (tgt := 18) C dX10_tail_4 (by decide) rfl (by split <;> omega) (fun h1 => ?_) (fun h1 => ?_)
  · have h2 : ¬ (0 ≤ a ∧ a < 24) := by
      intro q
      rw [if_pos q] at h1; exact absurd h1 (by decide)
    refine w_iconst (pc2 := 19) (v := iI (-1)) C dX10_tail_18 (by decide) rfl ?_
    -- at 19: .ireturn
    exact w_iret C dX10_tail_19 (by decide) (by decide) (DetI (by rw [if_neg (by omega)]) (by rw [if_neg (by omega)]))
  · have h2 : 0 ≤ a ∧ a < 24 := by
      rcases Decidable.em (0 ≤ a ∧ a < 24) with q | q
      · exact q
      · rw [if_neg q] at h1; exact absurd rfl h1
    refine w_iload_n (pc2 := 8) C dX10_tail_7 rfl rfl ?_
    refine w_iconst (pc2 := 9) (v := iI 1) C dX10_tail_8 (by decide) rfl ?_
    -- at 9: .if_icmp .lt 9
    refine z_icmp_lt (pc2 := 12) (tgt := 18) C dX10_tail_9 (by decide) rfl (by omega) (by omega) (fun h3 => ?_) (fun h3 => ?_)
    · skip
      refine w_iconst (pc2 := 19) (v := iI (-1)) C dX10_tail_18 (by decide) rfl ?_
      -- at 19: .ireturn
      exact w_iret C dX10_tail_19 (by decide) (by decide) (DetI (by rw [if_neg (by omega)]) (by rw [if_neg (by omega)]))
    · skip
      refine w_iload_n (pc2 := 13) C dX10_tail_12 rfl rfl ?_
      refine w_bipush (pc2 := 15) (v := iI 60) C dX10_tail_13 (by decide) rfl ?_
      -- at 15: .if_icmp .le 5
      refine z_icmp_le (pc2 := 18) (tgt := 20) C dX10_tail_15 (by decide) rfl (by omega) (by omega) (fun h4 => ?_) (fun h4 => ?_)
      · skip
        refine w_aload_n (pc2 := 21) C dX10_tail_20 rfl rfl ?_
        refine w_getR (pc2 := 24) C dX10_tail_21 fl_X10_28 (by first | exact hy.k _ | assumption) (by first | exact hy.r _ _ | assumption) rfl ?_
        refine w_getR (pc2 := 27) C dX10_tail_24 fl_X10_142 (by first | exact hy.k _ | assumption) (by first | exact hy.r _ _ | assumption) rfl ?_
        refine w_getR (pc2 := 30) C dX10_tail_27 fl_X10_146 (by first | exact hy.k _ | assumption) (by first | exact hy.r _ _ | assumption) rfl ?_
        refine w_iload_n (pc2 := 31) C dX10_tail_30 rfl rfl ?_
        -- at 31: .iaload
        refine z_iald (pc2 := 32) (j := a.toNat) C dX10_tail_31 (by first | exact hy.k _ | assumption) (by omega) (by omega) (by decide) rfl ?_
        refine w_istore_n (pc2 := 33) C dX10_tail_32 rfl (by decide) rfl rfl ?_
        try dsimp only [List.set]
        refine w_aload_n (pc2 := 34) C dX10_tail_33 rfl rfl ?_
        refine w_getR (pc2 := 37) C dX10_tail_34 fl_X10_28 (by first | exact hy.k _ | assumption) (by first | exact hy.r _ _ | assumption) rfl ?_
        refine w_getR (pc2 := 40) C dX10_tail_37 fl_X10_142 (by first | exact hy.k _ | assumption) (by first | exact hy.r _ _ | assumption) rfl ?_
        refine w_getR (pc2 := 43) C dX10_tail_40 fl_X10_146 (by first | exact hy.k _ | assumption) (by first | exact hy.r _ _ | assumption) rfl ?_
        refine w_iload_n (pc2 := 44) C dX10_tail_43 rfl rfl ?_
        refine w_iload_n (pc2 := 45) C dX10_tail_44 rfl rfl ?_
        -- at 45: .iastore
        refine z_iast (pc2 := 46) (j := a.toNat) C dX10_tail_45 (by first | exact hy.k _ | assumption) (by omega) (by omega) (by decide) rfl ?_
        refine w_iload_n (pc2 := 47) C dX10_tail_46 rfl rfl ?_
        -- at 47: .ireturn
        exact w_iret C dX10_tail_47 (by decide) (by decide) (DetI (by rw [if_pos (by omega)]) (by rw [if_pos (by omega)]))
      · skip
        refine w_iconst (pc2 := 19) (v := iI (-1)) C dX10_tail_18 (by decide) rfl ?_
        -- at 19: .ireturn
        exact w_iret C dX10_tail_19 (by decide) (by decide) (DetI (by rw [if_neg (by omega)]) (by rw [if_neg (by omega)]))
theorem s_X10_quarrel (hy : Ly K R) {a : Int} (ha : R32 a) : S_X10_quarrel [.ref 0, .int (iI a)] n K (zw J) L R (Det (some (.int (iI (if 0 ≤ a ∧ a ≤ 4095 then J 15 1 else -1)))) n K (zw (if 0 ≤ a ∧ a ≤ 4095 then up2 J 15 1 a else J)) L R) := by
  refine Sp_intro [some (.ref 0), some (.int (iI a)), none] rfl rfl (Nat.le_of_ble_eq_true rfl) rfl ?_
  intro Γ C
  replace C : C_X10_quarrel Γ := C
  refine w_iload_n (pc2 := 1) C dX10_quarrel_0 rfl rfl ?_
  -- at 1: .ifCond .lt 10
  refine z_if_lt (pc2 := 4) (tgt := 11) C dX10_quarrel_1 (by decide) rfl (by omega) (fun h1 => ?_) (fun h1 => ?_)
  · skip
    refine w_iconst (pc2 := 12) (v := iI (-1)) C dX10_quarrel_11 (by decide) rfl ?_
    -- at 12: .ireturn
    exact w_iret C dX10_quarrel_12 (by decide) (by decide) (DetI (by rw [if_neg (by omega)]) (by rw [if_neg (by omega)]))
  · skip
    refine w_iload_n (pc2 := 5) C dX10_quarrel_4 rfl rfl ?_
    refine w_sipush (pc2 := 8) (v := iI 4095) C dX10_quarrel_5 (by decide) rfl ?_
    -- at 8: .if_icmp .le 5
    refine z_icmp_le (pc2 := 11) (tgt := 13) C dX10_quarrel_8 (by decide) rfl (by omega) (by omega) (fun h2 => ?_) (fun h2 => ?_)
    · skip
      refine w_aload_n (pc2 := 14) C dX10_quarrel_13 rfl rfl ?_
      refine w_getR (pc2 := 17) C dX10_quarrel_14 fl_X10_28 (by first | exact hy.k _ | assumption) (by first | exact hy.r _ _ | assumption) rfl ?_
      refine w_getR (pc2 := 20) C dX10_quarrel_17 fl_X10_142 (by first | exact hy.k _ | assumption) (by first | exact hy.r _ _ | assumption) rfl ?_
      refine z_getI (pc2 := 23) C dX10_quarrel_20 fl_X10_151 (by first | exact hy.k _ | assumption) rfl ?_
      refine w_istore_n (pc2 := 24) C dX10_quarrel_23 rfl (by decide) rfl rfl ?_
      try dsimp only [List.set]
      refine w_aload_n (pc2 := 25) C dX10_quarrel_24 rfl rfl ?_
      refine w_getR (pc2 := 28) C dX10_quarrel_25 fl_X10_28 (by first | exact hy.k _ | assumption) (by first | exact hy.r _ _ | assumption) rfl ?_
      refine w_getR (pc2 := 31) C dX10_quarrel_28 fl_X10_142 (by first | exact hy.k _ | assumption) (by first | exact hy.r _ _ | assumption) rfl ?_
      refine w_iload_n (pc2 := 32) C dX10_quarrel_31 rfl rfl ?_
      refine z_putI (pc2 := 35) C dX10_quarrel_32 fl_X10_151 (by first | exact hy.k _ | assumption) (by rfl) (by rfl) rfl ?_
      refine w_iload_n (pc2 := 36) C dX10_quarrel_35 rfl rfl ?_
      -- at 36: .ireturn
      exact w_iret C dX10_quarrel_36 (by decide) (by decide) (DetI (by rw [if_pos (by omega)]) (by rw [if_pos (by omega)]))
    · skip
      refine w_iconst (pc2 := 12) (v := iI (-1)) C dX10_quarrel_11 (by decide) rfl ?_
      -- at 12: .ireturn
      exact w_iret C dX10_quarrel_12 (by decide) (by decide) (DetI (by rw [if_neg (by omega)]) (by rw [if_neg (by omega)]))
theorem s_X1_renew (hy : Ly K R) {a : Int} : S_X1_renew [.ref 18, .int (iI a)] n K (zw J) L R (Det none n K (zw (up2 (up2 (up2 J 18 3 a) 18 2 0) 18 4 (-1))) L R) := by
  refine Sp_intro [some (.ref 18), some (.int (iI a))] rfl rfl (Nat.le_of_ble_eq_true rfl) rfl ?_
  intro Γ C
  replace C : C_X1_renew Γ := C
  refine w_aload_n (pc2 := 1) C dX1_renew_0 rfl rfl ?_
  refine w_iload_n (pc2 := 2) C dX1_renew_1 rfl rfl ?_
  refine z_putI (pc2 := 5) C dX1_renew_2 fl_X1_22 (by first | exact hy.k _ | assumption) (by rfl) (by rfl) rfl ?_
  refine w_aload_n (pc2 := 6) C dX1_renew_5 rfl rfl ?_
  refine w_iconst (pc2 := 7) (v := iI 0) C dX1_renew_6 (by decide) rfl ?_
  refine z_putI (pc2 := 10) C dX1_renew_7 fl_X1_18 (by first | exact hy.k _ | assumption) (by rfl) (by rfl) rfl ?_
  refine w_aload_n (pc2 := 11) C dX1_renew_10 rfl rfl ?_
  refine w_iconst (pc2 := 12) (v := iI (-1)) C dX1_renew_11 (by decide) rfl ?_
  refine z_putI (pc2 := 15) C dX1_renew_12 fl_X1_25 (by first | exact hy.k _ | assumption) (by rfl) (by rfl) rfl ?_
  -- at 15: .return_
  exact w_ret C dX1_renew_15 (by decide) (by decide) (⟨rfl, rfl, rfl, rfl, rfl, rfl⟩)
theorem s_X10_drum (hy : Ly K R) {a : Int} (ha : R32 a) : S_X10_drum [.ref 0, .int (iI a)] n K (zw J) L R (Det (some (.int (iI (if 1 ≤ a ∧ a ≤ 2063 then 1 else 0)))) n K (zw (if 1 ≤ a ∧ a ≤ 2063 then up2 (up2 (up2 J 18 3 a) 18 2 0) 18 4 (-1) else J)) L R) := by
  refine Sp_intro [some (.ref 0), some (.int (iI a))] rfl rfl (Nat.le_of_ble_eq_true rfl) rfl ?_
  intro Γ C
  replace C : C_X10_drum Γ := C
  refine w_iload_n (pc2 := 1) C dX10_drum_0 rfl rfl ?_
  refine w_iconst (pc2 := 2) (v := iI 1) C dX10_drum_1 (by decide) rfl ?_
  -- at 2: .if_icmp .lt 10
  refine z_icmp_lt (pc2 := 5) (tgt := 12) C dX10_drum_2 (by decide) rfl (by omega) (by omega) (fun h1 => ?_) (fun h1 => ?_)
  · skip
    refine w_iconst (pc2 := 13) (v := iI 0) C dX10_drum_12 (by decide) rfl ?_
    -- at 13: .ireturn
    exact w_zret C dX10_drum_13 (Or.inl rfl) (by decide) (by decide) (DetI (by rw [if_neg (by omega)]) (by rw [if_neg (by omega)]))
  · skip
    refine w_iload_n (pc2 := 6) C dX10_drum_5 rfl rfl ?_
    refine w_sipush (pc2 := 9) (v := iI 2063) C dX10_drum_6 (by decide) rfl ?_
    -- at 9: .if_icmp .le 5
    refine z_icmp_le (pc2 := 12) (tgt := 14) C dX10_drum_9 (by decide) rfl (by omega) (by omega) (fun h2 => ?_) (fun h2 => ?_)
    · skip
      refine w_aload_n (pc2 := 15) C dX10_drum_14 rfl rfl ?_
      refine w_getR (pc2 := 18) C dX10_drum_15 fl_X10_28 (by first | exact hy.k _ | assumption) (by first | exact hy.r _ _ | assumption) rfl ?_
      refine w_getR (pc2 := 21) C dX10_drum_18 fl_X10_162 (by first | exact hy.k _ | assumption) (by first | exact hy.r _ _ | assumption) rfl ?_
      refine w_iload_n (pc2 := 22) C dX10_drum_21 rfl rfl ?_
      -- at 22: .invokevirtual 166
      refine w_cVv (pc2 := 25)  C dX10_drum_22 mb_X10_166 mv_X1_renew (s_X1_renew hy) (by first | exact hy.k _ | assumption) rfl (by decide) rfl rfl (Nat.le_of_ble_eq_true rfl) ⟨by decide, by decide⟩ ⟨rfl, rfl⟩ ⟨by decide, by decide⟩ rfl ?_
      refine w_iconst (pc2 := 26) (v := iI 1) C dX10_drum_25 (by decide) rfl ?_
      -- at 26: .ireturn
      exact w_zret C dX10_drum_26 (Or.inr rfl) (by decide) (by decide) (DetI (by rw [if_pos (by omega)]) (by rw [if_pos (by omega)]))
    · skip
      refine w_iconst (pc2 := 13) (v := iI 0) C dX10_drum_12 (by decide) rfl ?_
      -- at 13: .ireturn
      exact w_zret C dX10_drum_13 (Or.inl rfl) (by decide) (by decide) (DetI (by rw [if_neg (by omega)]) (by rw [if_neg (by omega)]))
theorem s_X10_turn (hy : Ly K R) : S_X10_turn [.ref 0] n K (zw J) L R (Det (some (.int (iI (J 18 4)))) n K (zw J) L R) := by
  refine Sp_intro [some (.ref 0)] rfl rfl (Nat.le_of_ble_eq_true rfl) rfl ?_
  intro Γ C
  replace C : C_X10_turn Γ := C
  refine w_aload_n (pc2 := 1) C dX10_turn_0 rfl rfl ?_
  refine w_getR (pc2 := 4) C dX10_turn_1 fl_X10_28 (by first | exact hy.k _ | assumption) (by first | exact hy.r _ _ | assumption) rfl ?_
  refine w_getR (pc2 := 7) C dX10_turn_4 fl_X10_162 (by first | exact hy.k _ | assumption) (by first | exact hy.r _ _ | assumption) rfl ?_
  refine z_getI (pc2 := 10) C dX10_turn_7 fl_X10_189 (by first | exact hy.k _ | assumption) rfl ?_
  -- at 10: .ireturn
  exact w_iret C dX10_turn_10 (by decide) (by decide) (⟨rfl, rfl, rfl, rfl, rfl, rfl⟩)
theorem s_X10_pins (hy : Ly K R) : S_X10_pins [.ref 0] n K (zw J) L R (Det (some (.int (iI (J 18 2)))) n K (zw J) L R) := by
  refine Sp_intro [some (.ref 0)] rfl rfl (Nat.le_of_ble_eq_true rfl) rfl ?_
  intro Γ C
  replace C : C_X10_pins Γ := C
  refine w_aload_n (pc2 := 1) C dX10_pins_0 rfl rfl ?_
  refine w_getR (pc2 := 4) C dX10_pins_1 fl_X10_28 (by first | exact hy.k _ | assumption) (by first | exact hy.r _ _ | assumption) rfl ?_
  refine w_getR (pc2 := 7) C dX10_pins_4 fl_X10_162 (by first | exact hy.k _ | assumption) (by first | exact hy.r _ _ | assumption) rfl ?_
  refine z_getI (pc2 := 10) C dX10_pins_7 fl_X10_199 (by first | exact hy.k _ | assumption) rfl ?_
  -- at 10: .ireturn
  exact w_iret C dX10_pins_10 (by decide) (by decide) (⟨rfl, rfl, rfl, rfl, rfl, rfl⟩)
/-- whether a step and a BELL have a pin -/
def pinB (J : wJn) (a b : Int) : Nat → Bool := fun p => decide (J 19 p = a ∧ J 20 p = b)
theorem s_X1_hasPin (hy : Ly K R) {a b : Int} {m : Nat} (ha : R32 a) (hb : R32 b) (hm : J 18 2 = m) (hm2 : m ≤ 100) (hJ : ∀ p, p < m → R32 (J 19 p) ∧ R32 (J 20 p)) : S_X1_hasPin [.ref 18, .int (iI a), .int (iI b)] n K (zw J) L R (Det (some (.int (iI (if anyN (pinB J a b) m = true then 1 else 0)))) n K (zw J) L R) := by
  refine Sp_intro [some (.ref 18), some (.int (iI a)), some (.int (iI b)), none] rfl rfl (Nat.le_of_ble_eq_true rfl) rfl ?_
  intro Γ C
  replace C : C_X1_hasPin Γ := C
  have key : ∀ (d j : Nat), j + d = m → anyN (pinB J a b) j = false → wp Γ 0 0 (QQ Γ (Det (some (.int (iI (if anyN (pinB J a b) m = true then 1 else 0)))) n K (zw J) L R)) 2 [some (.ref 18), some (.int (iI a)), some (.int (iI b)), some (.int (iI j))] [] n K (zw J) L R := by
    intro d
    induction d with
    | zero =>
      intro j hj hn
      refine w_iload_n (pc2 := 3) C dX1_hasPin_2 rfl rfl ?_
      refine w_aload_n (pc2 := 4) C dX1_hasPin_3 rfl rfl ?_
      refine z_getI (pc2 := 7) C dX1_hasPin_4 fl_X1_18 (by first | exact hy.k _ | assumption) rfl ?_
      -- at 7: .if_icmp .ge 31
      refine z_icmp_ge (pc2 := 10) (tgt := 38) C dX1_hasPin_7 (by decide) rfl (by omega) (by omega) (fun h1 => ?_) (fun h1 => ?_)
      · skip
        refine w_iconst (pc2 := 39) (v := iI 0) C dX1_hasPin_38 (by decide) rfl ?_
        -- at 39: .ireturn
        exact w_zret C dX1_hasPin_39 (Or.inl rfl) (by decide) (by decide) (DetI (by rw [show m = j by omega, hn]; rfl) rfl)
      · exact absurd hj (by omega)
    | succ d ih =>
      intro j hj hn
      have hJj := hJ j (by omega)
      refine w_iload_n (pc2 := 3) C dX1_hasPin_2 rfl rfl ?_
      refine w_aload_n (pc2 := 4) C dX1_hasPin_3 rfl rfl ?_
      refine z_getI (pc2 := 7) C dX1_hasPin_4 fl_X1_18 (by first | exact hy.k _ | assumption) rfl ?_
      -- at 7: .if_icmp .ge 31
      refine z_icmp_ge (pc2 := 10) (tgt := 38) C dX1_hasPin_7 (by decide) rfl (by omega) (by omega) (fun h1 => ?_) (fun h1 => ?_)
      · exact absurd hj (by omega)
      · skip
        refine w_aload_n (pc2 := 11) C dX1_hasPin_10 rfl rfl ?_
        refine w_getR (pc2 := 14) C dX1_hasPin_11 fl_X1_9 (by first | exact hy.k _ | assumption) (by first | exact hy.r _ _ | assumption) rfl ?_
        refine w_iload_n (pc2 := 15) C dX1_hasPin_14 rfl rfl ?_
        -- at 15: .iaload
        refine z_iald (pc2 := 16) (j := j) C dX1_hasPin_15 (by first | exact hy.k _ | assumption) (by omega) (by omega) (by decide) rfl ?_
        refine w_iload_n (pc2 := 17) C dX1_hasPin_16 rfl rfl ?_
        -- at 17: .if_icmp .ne 15
        refine z_icmp_ne (pc2 := 20) (tgt := 32) C dX1_hasPin_17 (by decide) rfl (by omega) (by omega) (fun h2 => ?_) (fun h2 => ?_)
        · skip
          refine w_iinc (pc2 := 35) C dX1_hasPin_32 rfl (iI_add _ _) rfl (by decide) rfl rfl ?_
          try dsimp only [List.set]
          refine w_goto (tgt := 2) C dX1_hasPin_35 (by decide) ?_
          -- at 2: .iload_n 3
          exact ih (j + 1) (by omega) (by simp [anyN, hn, pinB, h2])
        · skip
          refine w_aload_n (pc2 := 21) C dX1_hasPin_20 rfl rfl ?_
          refine w_getR (pc2 := 24) C dX1_hasPin_21 fl_X1_15 (by first | exact hy.k _ | assumption) (by first | exact hy.r _ _ | assumption) rfl ?_
          refine w_iload_n (pc2 := 25) C dX1_hasPin_24 rfl rfl ?_
          -- at 25: .iaload
          refine z_iald (pc2 := 26) (j := j) C dX1_hasPin_25 (by first | exact hy.k _ | assumption) (by omega) (by omega) (by decide) rfl ?_
          refine w_iload_n (pc2 := 27) C dX1_hasPin_26 rfl rfl ?_
          -- at 27: .if_icmp .ne 5
          refine z_icmp_ne (pc2 := 30) (tgt := 32) C dX1_hasPin_27 (by decide) rfl (by omega) (by omega) (fun h3 => ?_) (fun h3 => ?_)
          · skip
            refine w_iinc (pc2 := 35) C dX1_hasPin_32 rfl (iI_add _ _) rfl (by decide) rfl rfl ?_
            try dsimp only [List.set]
            refine w_goto (tgt := 2) C dX1_hasPin_35 (by decide) ?_
            -- at 2: .iload_n 3
            exact ih (j + 1) (by omega) (by simp [anyN, hn, pinB, h3])
          · skip
            refine w_iconst (pc2 := 31) (v := iI 1) C dX1_hasPin_30 (by decide) rfl ?_
            -- at 31: .ireturn
            exact w_zret C dX1_hasPin_31 (Or.inr rfl) (by decide) (by decide) (DetI (by rw [if_pos ((anyN_iff _ m).mpr ⟨j, by omega, by simp [pinB, h2, h3]⟩)]) rfl)
  refine w_iconst (pc2 := 1) (v := iI 0) C dX1_hasPin_0 (by decide) rfl ?_
  refine w_istore_n (pc2 := 2) C dX1_hasPin_1 rfl (by decide) rfl rfl ?_
  try dsimp only [List.set]
  -- at 2: .iload_n 3
  exact key m 0 (by omega) rfl
theorem s_X10_pin (hy : Ly K R) {a b : Int} {m : Nat} (ha : R32 a) (hb : R32 b) (hs : R32 (J 18 3)) (hm : J 18 2 = m) (hm2 : m ≤ 100) (hJ : ∀ p, p < m → R32 (J 19 p) ∧ R32 (J 20 p)) : S_X10_pin [.ref 0, .int (iI a), .int (iI b)] n K (zw J) L R (Det (some (.int (iI (if 0 ≤ a ∧ a < J 18 3 ∧ 0 ≤ b ∧ b < 24 then (if anyN (pinB J a b) m = true then 1 else 0) else -1)))) n K (zw J) L R) := by
  refine Sp_intro [some (.ref 0), some (.int (iI a)), some (.int (iI b))] rfl rfl (Nat.le_of_ble_eq_true rfl) rfl ?_
  intro Γ C
  replace C : C_X10_pin Γ := C
  refine w_iload_n (pc2 := 1) C dX10_pin_0 rfl rfl ?_
  -- at 1: .ifCond .lt 24
  refine z_if_lt (pc2 := 4) (tgt := 25) C dX10_pin_1 (by decide) rfl (by omega) (fun h1 => ?_) (fun h1 => ?_)
  · skip
    refine w_iconst (pc2 := 26) (v := iI (-1)) C dX10_pin_25 (by decide) rfl ?_
    -- at 26: .ireturn
    exact w_iret C dX10_pin_26 (by decide) (by decide) (DetI (by rw [if_neg (by omega)]) rfl)
  · skip
    refine w_iload_n (pc2 := 5) C dX10_pin_4 rfl rfl ?_
    refine w_aload_n (pc2 := 6) C dX10_pin_5 rfl rfl ?_
    refine w_getR (pc2 := 9) C dX10_pin_6 fl_X10_28 (by first | exact hy.k _ | assumption) (by first | exact hy.r _ _ | assumption) rfl ?_
    refine w_getR (pc2 := 12) C dX10_pin_9 fl_X10_162 (by first | exact hy.k _ | assumption) (by first | exact hy.r _ _ | assumption) rfl ?_
    refine z_getI (pc2 := 15) C dX10_pin_12 fl_X10_192 (by first | exact hy.k _ | assumption) rfl ?_
    -- at 15: .if_icmp .ge 10
    refine z_icmp_ge (pc2 := 18) (tgt := 25) C dX10_pin_15 (by decide) rfl (by omega) (by omega) (fun h2 => ?_) (fun h2 => ?_)
    · skip
      refine w_iconst (pc2 := 26) (v := iI (-1)) C dX10_pin_25 (by decide) rfl ?_
      -- at 26: .ireturn
      exact w_iret C dX10_pin_26 (by decide) (by decide) (DetI (by rw [if_neg (by omega)]) rfl)
    · skip
      refine w_iload_n (pc2 := 19) C dX10_pin_18 rfl rfl ?_
      -- at 19: .invokestatic 139
      refine w_cSi (pc2 := 22)  C dX10_pin_19 mb_X10_139 ms_X10_isBell (s_X10_isBell hb) rfl rfl (Nat.le_of_ble_eq_true rfl) ⟨by decide, by decide⟩ ⟨rfl, rfl⟩ ⟨by decide, by decide⟩ rfl ?_
      -- at 22: .ifCond .ne 5
      refine z_if_ne (pc2 := 25) (tgt := 27) C dX10_pin_22 (by decide) rfl (by split <;> omega) (fun h3 => ?_) (fun h3 => ?_)
      · have h4 : 0 ≤ b ∧ b < 24 := by
          rcases Decidable.em (0 ≤ b ∧ b < 24) with q | q
          · exact q
          · rw [if_neg q] at h3; exact absurd rfl h3
        refine w_aload_n (pc2 := 28) C dX10_pin_27 rfl rfl ?_
        refine w_getR (pc2 := 31) C dX10_pin_28 fl_X10_28 (by first | exact hy.k _ | assumption) (by first | exact hy.r _ _ | assumption) rfl ?_
        refine w_getR (pc2 := 34) C dX10_pin_31 fl_X10_162 (by first | exact hy.k _ | assumption) (by first | exact hy.r _ _ | assumption) rfl ?_
        refine w_iload_n (pc2 := 35) C dX10_pin_34 rfl rfl ?_
        refine w_iload_n (pc2 := 36) C dX10_pin_35 rfl rfl ?_
        -- at 36: .invokevirtual 195
        refine w_cVi (pc2 := 39)  C dX10_pin_36 mb_X10_195 mv_X1_hasPin (s_X1_hasPin hy ha hb hm hm2 hJ) (by first | exact hy.k _ | assumption) rfl (by decide) rfl rfl (Nat.le_of_ble_eq_true rfl) ⟨by decide, by decide⟩ ⟨rfl, rfl⟩ ⟨by decide, by decide⟩ rfl ?_
        -- at 39: .ifCond .eq 7
        refine z_if_eq (pc2 := 42) (tgt := 46) C dX10_pin_39 (by decide) rfl (by split <;> omega) (fun h5 => ?_) (fun h5 => ?_)
        · have h6 : ¬ anyN (pinB J a b) m = true := fun q => by rw [if_pos q] at h5; exact absurd h5 (by decide)
          refine w_iconst (pc2 := 47) (v := iI 0) C dX10_pin_46 (by decide) rfl ?_
          -- at 47: .ireturn
          exact w_iret C dX10_pin_47 (by decide) (by decide) (DetI (by rw [if_pos (by omega), if_neg h6]) rfl)
        · have h6 : anyN (pinB J a b) m = true := by
            rcases Decidable.em (anyN (pinB J a b) m = true) with q | q
            · exact q
            · rw [if_neg q] at h5; exact absurd rfl h5
          refine w_iconst (pc2 := 43) (v := iI 1) C dX10_pin_42 (by decide) rfl ?_
          refine w_goto (tgt := 47) C dX10_pin_43 (by decide) ?_
          -- at 47: .ireturn
          exact w_iret C dX10_pin_47 (by decide) (by decide) (DetI (by rw [if_pos (by omega), if_pos h6]) rfl)
      · have h4 : ¬ (0 ≤ b ∧ b < 24) := by
          intro q
          rw [if_pos q] at h3; exact absurd h3 (by decide)
        refine w_iconst (pc2 := 26) (v := iI (-1)) C dX10_pin_25 (by decide) rfl ?_
        -- at 26: .ireturn
        exact w_iret C dX10_pin_26 (by decide) (by decide) (DetI (by rw [if_neg (by omega)]) rfl)
theorem DetL {r r2 : Option Value} {n : Nat} {K : wKd} {I I2 : wIn} {L L2 : wLn} {R : wRf} (h1 : r = r2) (h2 : I = I2) (h3 : L = L2) : Det r2 n K I2 L2 R r n K I L R := ⟨h1, rfl, rfl, h2, h3, rfl⟩
theorem s_X10_strikes (hy : Ly K R) {a : Int} (ha : R32 a) : S_X10_strikes [.ref 0, .int (iI a)] n K (zw J) L R (Det (some (.long (if 0 ≤ a ∧ a < 24 then L 22 a.toNat else -1))) n K (zw J) L R) := by
  refine Sp_intro [some (.ref 0), some (.int (iI a))] rfl rfl (Nat.le_of_ble_eq_true rfl) rfl ?_
  intro Γ C
  replace C : C_X10_strikes Γ := C
  refine w_iload_n (pc2 := 1) C dX10_strikes_0 rfl rfl ?_
  -- at 1: .invokestatic 139
  refine w_cSi (pc2 := 4)  C dX10_strikes_1 mb_X10_139 ms_X10_isBell (s_X10_isBell ha) rfl rfl (Nat.le_of_ble_eq_true rfl) ⟨by decide, by decide⟩ ⟨rfl, rfl⟩ ⟨by decide, by decide⟩ rfl ?_
  -- at 4: .ifCond .ne 7
  refine z_if_ne (pc2 := 7) (tgt := 11) C dX10_strikes_4 (by decide) rfl (by split <;> omega) (fun h1 => ?_) (fun h1 => ?_)
  · have h2 : 0 ≤ a ∧ a < 24 := by
      rcases Decidable.em (0 ≤ a ∧ a < 24) with q | q
      · exact q
      · rw [if_neg q] at h1; exact absurd rfl h1
    refine w_aload_n (pc2 := 12) C dX10_strikes_11 rfl rfl ?_
    refine w_getR (pc2 := 15) C dX10_strikes_12 fl_X10_28 (by first | exact hy.k _ | assumption) (by first | exact hy.r _ _ | assumption) rfl ?_
    refine w_getR (pc2 := 18) C dX10_strikes_15 fl_X10_200 (by first | exact hy.k _ | assumption) (by first | exact hy.r _ _ | assumption) rfl ?_
    refine w_getR (pc2 := 21) C dX10_strikes_18 fl_X10_216 (by first | exact hy.k _ | assumption) (by first | exact hy.r _ _ | assumption) rfl ?_
    refine w_iload_n (pc2 := 22) C dX10_strikes_21 rfl rfl ?_
    -- at 22: .laload
    refine z_lald (pc2 := 23) (j := a.toNat) C dX10_strikes_22 (by first | exact hy.k _ | assumption) (by omega) (by omega) (by decide) rfl ?_
    exact w_lret C dX10_strikes_23 (by decide) (by decide) (DetI (by rw [if_pos h2]) rfl)
  · have h2 : ¬ (0 ≤ a ∧ a < 24) := by
      intro q
      rw [if_pos q] at h1; exact absurd h1 (by decide)
    refine w_ldc2 (pc2 := 10) C dX10_strikes_7 kl_X10_214 rfl ?_
    -- at 10: .lreturn
    exact w_lret C dX10_strikes_10 (by decide) (by decide) (DetI (by rw [if_neg h2]) rfl)
theorem s_X10_mend (hy : Ly K R) {a : Int} (ha : R32 a) : S_X10_mend [.ref 0, .int (iI a)] n K (zw J) L R (Det (some (.long (if 0 ≤ a ∧ a < 24 then L 22 a.toNat else -1))) n K (zw J) (if 0 ≤ a ∧ a < 24 then up2 L 22 a.toNat 0 else L) R) := by
  refine Sp_intro [some (.ref 0), some (.int (iI a)), none, none] rfl rfl (Nat.le_of_ble_eq_true rfl) rfl ?_
  intro Γ C
  replace C : C_X10_mend Γ := C
  refine w_iload_n (pc2 := 1) C dX10_mend_0 rfl rfl ?_
  -- at 1: .invokestatic 139
  refine w_cSi (pc2 := 4)  C dX10_mend_1 mb_X10_139 ms_X10_isBell (s_X10_isBell ha) rfl rfl (Nat.le_of_ble_eq_true rfl) ⟨by decide, by decide⟩ ⟨rfl, rfl⟩ ⟨by decide, by decide⟩ rfl ?_
  -- at 4: .ifCond .ne 7
  refine z_if_ne (pc2 := 7) (tgt := 11) C dX10_mend_4 (by decide) rfl (by split <;> omega) (fun h1 => ?_) (fun h1 => ?_)
  · have h2 : 0 ≤ a ∧ a < 24 := by
      rcases Decidable.em (0 ≤ a ∧ a < 24) with q | q
      · exact q
      · rw [if_neg q] at h1; exact absurd rfl h1
    refine w_aload_n (pc2 := 12) C dX10_mend_11 rfl rfl ?_
    refine w_getR (pc2 := 15) C dX10_mend_12 fl_X10_28 (by first | exact hy.k _ | assumption) (by first | exact hy.r _ _ | assumption) rfl ?_
    refine w_getR (pc2 := 18) C dX10_mend_15 fl_X10_200 (by first | exact hy.k _ | assumption) (by first | exact hy.r _ _ | assumption) rfl ?_
    refine w_getR (pc2 := 21) C dX10_mend_18 fl_X10_216 (by first | exact hy.k _ | assumption) (by first | exact hy.r _ _ | assumption) rfl ?_
    refine w_iload_n (pc2 := 22) C dX10_mend_21 rfl rfl ?_
    -- at 22: .laload
    refine z_lald (pc2 := 23) (j := a.toNat) C dX10_mend_22 (by first | exact hy.k _ | assumption) (by omega) (by omega) (by decide) rfl ?_
    refine w_lstore_n (pc2 := 24) C dX10_mend_23 rfl (by decide) rfl rfl ?_
    try dsimp only [List.set]
    refine w_aload_n (pc2 := 25) C dX10_mend_24 rfl rfl ?_
    refine w_getR (pc2 := 28) C dX10_mend_25 fl_X10_28 (by first | exact hy.k _ | assumption) (by first | exact hy.r _ _ | assumption) rfl ?_
    refine w_getR (pc2 := 31) C dX10_mend_28 fl_X10_200 (by first | exact hy.k _ | assumption) (by first | exact hy.r _ _ | assumption) rfl ?_
    refine w_getR (pc2 := 34) C dX10_mend_31 fl_X10_216 (by first | exact hy.k _ | assumption) (by first | exact hy.r _ _ | assumption) rfl ?_
    refine w_iload_n (pc2 := 35) C dX10_mend_34 rfl rfl ?_
    refine w_lconst (pc2 := 36) (v := 0) C dX10_mend_35 (by decide) rfl ?_
    -- at 36: .lastore
    refine z_last (pc2 := 37) (j := a.toNat) C dX10_mend_36 (by first | exact hy.k _ | assumption) (by omega) (by omega) (by decide) rfl ?_
    refine w_lload_n (pc2 := 38) C dX10_mend_37 rfl rfl ?_
    -- at 38: .lreturn
    exact w_lret C dX10_mend_38 (by decide) (by decide) (DetL (by rw [if_pos h2]) rfl (by rw [if_pos h2]))
  · have h2 : ¬ (0 ≤ a ∧ a < 24) := by
      intro q
      rw [if_pos q] at h1; exact absurd h1 (by decide)
    refine w_ldc2 (pc2 := 10) C dX10_mend_7 kl_X10_214 rfl ?_
    -- at 10: .lreturn
    exact w_lret C dX10_mend_10 (by decide) (by decide) (DetL (by rw [if_neg h2]) rfl (by rw [if_neg h2]))
def wornB (L : wLn) (i : Nat) (a : Int) : Nat → Bool := fun b => decide ((iI a).toInt64 ≤ L i b)
theorem s_X0_wornAt (hy : Ly K R) {a : Int} : S_X0_wornAt [.ref 21, .int (iI a)] n K (zw J) L R (Det (some (.int (iI (cntN (wornB L 22 a) 24)))) n K (zw J) L R) := by
  refine Sp_intro [some (.ref 21), some (.int (iI a)), none, none] rfl rfl (Nat.le_of_ble_eq_true rfl) rfl ?_
  intro Γ C
  replace C : C_X0_wornAt Γ := C
  have key : ∀ (d j : Nat), j + d = 24 → wp Γ 0 0 (QQ Γ (Det (some (.int (iI (cntN (wornB L 22 a) 24)))) n K (zw J) L R)) 4 [some (.ref 21), some (.int (iI a)), some (.int (iI (cntN (wornB L 22 a) j))), some (.int (iI j))] [] n K (zw J) L R := by
    intro d
    induction d with
    | zero =>
      intro j hj
      refine w_iload_n (pc2 := 5) C dX0_wornAt_4 rfl rfl ?_
      refine w_bipush (pc2 := 7) (v := iI 24) C dX0_wornAt_5 (by decide) rfl ?_
      -- at 7: .if_icmp .ge 24
      refine z_icmp_ge (pc2 := 10) (tgt := 31) C dX0_wornAt_7 (by decide) rfl (by omega) (by omega) (fun h1 => ?_) (fun h1 => ?_)
      · skip
        refine w_iload_n (pc2 := 32) C dX0_wornAt_31 rfl rfl ?_
        -- at 32: .ireturn
        exact w_iret C dX0_wornAt_32 (by decide) (by decide) (DetI (by rw [show j = 24 by omega]) rfl)
      · exact absurd hj (by omega)
    | succ d ih =>
      intro j hj
      have hc := cntN_le (wornB L 22 a) j
      refine w_iload_n (pc2 := 5) C dX0_wornAt_4 rfl rfl ?_
      refine w_bipush (pc2 := 7) (v := iI 24) C dX0_wornAt_5 (by decide) rfl ?_
      -- at 7: .if_icmp .ge 24
      refine z_icmp_ge (pc2 := 10) (tgt := 31) C dX0_wornAt_7 (by decide) rfl (by omega) (by omega) (fun h1 => ?_) (fun h1 => ?_)
      · exact absurd hj (by omega)
      · skip
        refine w_aload_n (pc2 := 11) C dX0_wornAt_10 rfl rfl ?_
        refine w_getR (pc2 := 14) C dX0_wornAt_11 fl_X0_9 (by first | exact hy.k _ | assumption) (by first | exact hy.r _ _ | assumption) rfl ?_
        refine w_iload_n (pc2 := 15) C dX0_wornAt_14 rfl rfl ?_
        -- at 15: .laload
        refine z_lald (pc2 := 16) (j := j) C dX0_wornAt_15 (by first | exact hy.k _ | assumption) (by omega) (by omega) (by decide) rfl ?_
        refine w_iload_n (pc2 := 17) C dX0_wornAt_16 rfl rfl ?_
        refine w_i2l (pc2 := 18) C dX0_wornAt_17 rfl ?_
        refine w_lcmp (pc2 := 19) C dX0_wornAt_18 rfl ?_
        -- at 19: .ifCond .lt 6
        rw [lg_cmp_lt0]
        refine z_if_lt (pc2 := 22) (tgt := 25) C dX0_wornAt_19 (by decide) rfl (by split <;> (try split) <;> omega) (fun h2 => ?_) (fun h2 => ?_)
        · have h3 : wornB L 22 a j = false := by
            simp only [wornB, decide_eq_false_iff_not, Int64.not_le]
            by_cases q : (iI a).toInt64 < L 22 j
            · rw [if_pos q] at h2; exact absurd h2 (by omega)
            · by_cases q2 : L 22 j = (iI a).toInt64
              · rw [if_neg q, if_pos q2] at h2; exact absurd h2 (by omega)
              · exact Int64.lt_iff_le_and_ne.mpr ⟨Int64.not_lt.mp q, q2⟩
          refine w_iinc (pc2 := 28) C dX0_wornAt_25 rfl (iI_add _ _) rfl (by decide) rfl rfl ?_
          try dsimp only [List.set]
          refine w_goto (tgt := 4) C dX0_wornAt_28 (by decide) ?_
          -- at 4: .iload_n 3
          have e : cntN (wornB L 22 a) (j + 1) = cntN (wornB L 22 a) j := by simp [cntN, h3]
          have := ih (j + 1) (by omega)
          rw [e] at this
          exact this
        · have h3 : wornB L 22 a j = true := by
            simp only [wornB, decide_eq_true_eq]
            by_cases q : (iI a).toInt64 < L 22 j
            · exact Int64.le_of_lt q
            · by_cases q2 : L 22 j = (iI a).toInt64
              · rw [q2]; exact Int64.le_refl _
              · rw [if_neg q, if_neg q2] at h2; exact absurd h2 (by omega)
          refine w_iinc (pc2 := 25) C dX0_wornAt_22 rfl (iI_add _ _) rfl (by decide) rfl rfl ?_
          try dsimp only [List.set]
          refine w_iinc (pc2 := 28) C dX0_wornAt_25 rfl (iI_add _ _) rfl (by decide) rfl rfl ?_
          try dsimp only [List.set]
          refine w_goto (tgt := 4) C dX0_wornAt_28 (by decide) ?_
          -- at 4: .iload_n 3
          have e : cntN (wornB L 22 a) (j + 1) = cntN (wornB L 22 a) j + 1 := by simp [cntN, h3]
          have := ih (j + 1) (by omega)
          rw [e] at this
          exact this
  refine w_iconst (pc2 := 1) (v := iI 0) C dX0_wornAt_0 (by decide) rfl ?_
  refine w_istore_n (pc2 := 2) C dX0_wornAt_1 rfl (by decide) rfl rfl ?_
  try dsimp only [List.set]
  refine w_iconst (pc2 := 3) (v := iI 0) C dX0_wornAt_2 (by decide) rfl ?_
  refine w_istore_n (pc2 := 4) C dX0_wornAt_3 rfl (by decide) rfl rfl ?_
  try dsimp only [List.set]
  -- at 4: .iload_n 3
  exact key 24 0 (by omega)
theorem s_X10_worn (hy : Ly K R) {a : Int} (ha : R32 a) : S_X10_worn [.ref 0, .int (iI a)] n K (zw J) L R (Det (some (.int (iI (if 1 ≤ a then (cntN (wornB L 22 a) 24 : Int) else -1)))) n K (zw J) L R) := by
  refine Sp_intro [some (.ref 0), some (.int (iI a))] rfl rfl (Nat.le_of_ble_eq_true rfl) rfl ?_
  intro Γ C
  replace C : C_X10_worn Γ := C
  refine w_iload_n (pc2 := 1) C dX10_worn_0 rfl rfl ?_
  refine w_iconst (pc2 := 2) (v := iI 1) C dX10_worn_1 (by decide) rfl ?_
  -- at 2: .if_icmp .ge 5
  refine z_icmp_ge (pc2 := 5) (tgt := 7) C dX10_worn_2 (by decide) rfl (by omega) (by omega) (fun h1 => ?_) (fun h1 => ?_)
  · skip
    refine w_aload_n (pc2 := 8) C dX10_worn_7 rfl rfl ?_
    refine w_getR (pc2 := 11) C dX10_worn_8 fl_X10_28 (by first | exact hy.k _ | assumption) (by first | exact hy.r _ _ | assumption) rfl ?_
    refine w_getR (pc2 := 14) C dX10_worn_11 fl_X10_200 (by first | exact hy.k _ | assumption) (by first | exact hy.r _ _ | assumption) rfl ?_
    refine w_iload_n (pc2 := 15) C dX10_worn_14 rfl rfl ?_
    -- at 15: .invokevirtual 220
    refine w_cVi (pc2 := 18)  C dX10_worn_15 mb_X10_220 mv_X0_wornAt (s_X0_wornAt hy) (by first | exact hy.k _ | assumption) rfl (by decide) rfl rfl (Nat.le_of_ble_eq_true rfl) ⟨by decide, by decide⟩ ⟨rfl, rfl⟩ ⟨by decide, by decide⟩ rfl ?_
    -- at 18: .ireturn
    exact w_iret C dX10_worn_18 (by decide) (by decide) (DetI (by rw [if_pos h1]) rfl)
  · skip
    refine w_iconst (pc2 := 6) (v := iI (-1)) C dX10_worn_5 (by decide) rfl ?_
    -- at 6: .ireturn
    exact w_iret C dX10_worn_6 (by decide) (by decide) (DetI (by rw [if_neg h1]) rfl)
theorem s_X7_addNumber (hy : Ly K R) {a : Int} (h0 : 0 ≤ J 1 1) (h1 : J 1 1 + 4 ≤ 1000) : S_X7_addNumber [.ref 1, .int (iI a)] n K (zw J) L R (Det none n K (zw (addN a 4 J)) L R) := by
  refine Sp_intro [some (.ref 1), some (.int (iI a)), none] rfl rfl (Nat.le_of_ble_eq_true rfl) rfl ?_
  intro Γ C
  replace C : C_X7_addNumber Γ := C
  have key : ∀ (d : Nat) (J : wJn), d ≤ 4 → 0 ≤ J 1 1 → J 1 1 + d ≤ 1000 → ∀ J2 : wJn, J2 = addN a d J → wp Γ 0 0 (QQ Γ (Det none n K (zw J2) L R)) 3 [some (.ref 1), some (.int (iI a)), some (.int (iI (8 * (d : Int) - 8)))] [] n K (zw J) L R := by
    intro d
    induction d with
    | zero =>
      intro J hd h0 h1 J2 e
      refine w_iload_n (pc2 := 4) C dX7_addNumber_3 rfl rfl ?_
      -- at 4: .ifCond .lt 42
      refine z_if_lt (pc2 := 7) (tgt := 46) C dX7_addNumber_4 (by decide) rfl (by omega) (fun h2 => ?_) (fun h2 => ?_)
      · skip
        exact w_ret C dX7_addNumber_46 (by decide) (by decide) (DetI rfl (by rw [e]; rfl))
      · exact absurd h2 (by omega)
    | succ d ih =>
      intro J hd h0 h1 J2 e
      refine w_iload_n (pc2 := 4) C dX7_addNumber_3 rfl rfl ?_
      -- at 4: .ifCond .lt 42
      refine z_if_lt (pc2 := 7) (tgt := 46) C dX7_addNumber_4 (by decide) rfl (by omega) (fun h2 => ?_) (fun h2 => ?_)
      · exact absurd h2 (by omega)
      · skip
        refine w_aload_n (pc2 := 8) C dX7_addNumber_7 rfl rfl ?_
        refine z_getI (pc2 := 11) C dX7_addNumber_8 fl_X7_15 (by first | exact hy.k _ | assumption) rfl ?_
        refine w_sipush (pc2 := 14) (v := iI 1000) C dX7_addNumber_11 (by decide) rfl ?_
        -- at 14: .if_icmp .ge 32
        refine z_icmp_ge (pc2 := 17) (tgt := 46) C dX7_addNumber_14 (by decide) rfl (by omega) (by omega) (fun h3 => ?_) (fun h3 => ?_)
        · exact absurd h3 (by omega)
        · skip
          refine w_aload_n (pc2 := 18) C dX7_addNumber_17 rfl rfl ?_
          refine w_getR (pc2 := 21) C dX7_addNumber_18 fl_X7_9 (by first | exact hy.k _ | assumption) (by first | exact hy.r _ _ | assumption) rfl ?_
          refine w_aload_n (pc2 := 22) C dX7_addNumber_21 rfl rfl ?_
          refine z_getI (pc2 := 25) C dX7_addNumber_22 fl_X7_15 (by first | exact hy.k _ | assumption) rfl ?_
          refine w_iload_n (pc2 := 26) C dX7_addNumber_25 rfl rfl ?_
          refine w_iload_n (pc2 := 27) C dX7_addNumber_26 rfl rfl ?_
          refine w_ishr (pc2 := 28) C dX7_addNumber_27 rfl ?_
          refine w_i2b (pc2 := 29) C dX7_addNumber_28 rfl ?_
          -- at 29: .bastore
          have e8 : (8 * ((d + 1 : Nat) : Int) - 8) = 8 * (d : Int) := by omega
          rw [e8]
          refine z_bast (pc2 := 30) (j := (J 1 1).toNat) C dX7_addNumber_29 (by first | exact hy.k _ | assumption) (by omega) (by omega) (by decide) rfl ?_
          refine w_aload_n (pc2 := 31) C dX7_addNumber_30 rfl rfl ?_
          refine w_dup (pc2 := 32) C dX7_addNumber_31 rfl rfl ?_
          refine z_getI (pc2 := 35) C dX7_addNumber_32 fl_X7_15 (by first | exact hy.k _ | assumption) rfl ?_
          refine w_iconst (pc2 := 36) (v := iI 1) C dX7_addNumber_35 (by decide) rfl ?_
          refine z_iadd (pc2 := 37) C dX7_addNumber_36 rfl ?_
          refine z_putI (pc2 := 40) C dX7_addNumber_37 fl_X7_15 (by first | exact hy.k _ | assumption) (by rfl) (by rfl) rfl ?_
          refine w_iinc (pc2 := 43) C dX7_addNumber_40 rfl (iI_add _ _) rfl (by decide) rfl rfl ?_
          try dsimp only [List.set]
          refine w_goto (tgt := 3) C dX7_addNumber_43 (by decide) ?_
          -- at 3: .iload_n 2
          have e9 : (8 * (d : Int)) + (-8) = 8 * (d : Int) - 8 := by omega
          rw [e9]
          have e1 : up2 J 2 (J 1 1).toNat (bv a d) 1 1 = J 1 1 := up2_n _ _ _ _ (by omega)
          have key := ih (up2 (up2 J 2 (J 1 1).toNat (bv a d)) 1 1 (J 1 1 + 1)) (by omega) (by rw [up2_s]; omega) (by rw [up2_s]; omega) J2 e
          rw [← e1] at key
          rw [← e1]
          exact key
  refine w_bipush (pc2 := 2) (v := iI 24) C dX7_addNumber_0 (by decide) rfl ?_
  refine w_istore_n (pc2 := 3) C dX7_addNumber_2 rfl (by decide) rfl rfl ?_
  try dsimp only [List.set]
  -- at 3: .iload_n 2
  exact key 4 J (by omega) h0 (by omega) _ rfl
end SMALL
end
section
/-! ===== copies ===== -/
def cpyJ (J : wJn) (i j c : Nat) : wJn := up1 J j (fun q => if q < c then J i q else J j q)
def cpyL (L : wLn) (i j c : Nat) : wLn := up1 L j (fun q => if q < c then L i q else L j q)
theorem zw_cpy (J : wJn) (i j c : Nat) : up1 (zw J) j (fun q => if q < c then zw J i q else zw J j q) = zw (cpyJ J i j c) := by
  unfold cpyJ
  rw [← zw_row]
  congr 1
  funext q
  by_cases h : q < c
  · simp only [if_pos h]; rfl
  · simp only [if_neg h]; rfl
section ZC
variable {Γ : Gm} {own : String} {cc : ByteArray} {nL : Nat} {ret : Option FieldType} {rm : Room} {nm : String} {cells slots pc pc2 : Nat} {Q : State → Prop} {lo : List (Option Value)} {st : List Value} {n : Nat} {K : wKd} {I : wIn} {J : wJn} {L : wLn} {R : wRf}
theorem z_copyI (C : Cx Γ own cc nL ret rm nm) {idx i j m1 m2 c : Nat} {x : Int} (hd : decode cc pc = .ok (.invokestatic idx, 3)) (hl1 : Cond.methodLink own idx arraycopyName ∈ tg) (hl2 : Cond.native arraycopyName ∈ tg) (hl3 : Cond.static arraycopyName ∈ tg) (hl4 : Cond.initialized "java/lang/System" ∈ tg) (hk1 : K i = (100, m1)) (hk2 : K j = (100, m2)) (hx : x = c) (hc1 : c ≤ m1) (hc2 : c ≤ m2) (hm : c < 2 ^ 31) (hfr : 1 ≤ rm.frames) (hlo : (st.map fun v => v.category).sum + 18 ≤ rm.locals) (hp : pc + 3 = pc2)
    (kk : wp Γ cells slots Q pc2 lo st n K (zw (cpyJ J i j c)) L R) : wp Γ cells slots Q pc lo (.int (iI x) :: .int (iI 0) :: .ref j :: .int (iI 0) :: .ref i :: st) n K (zw J) L R :=
  w_copyI C hd hl1 hl2 hl3 hl4 hk1 hk2 (iI_n hx) hc1 hc2 hm hfr hlo hp (by rw [zw_cpy]; exact kk)
theorem z_copyL (C : Cx Γ own cc nL ret rm nm) {idx i j m1 m2 c : Nat} {x : Int} (hd : decode cc pc = .ok (.invokestatic idx, 3)) (hl1 : Cond.methodLink own idx arraycopyName ∈ tg) (hl2 : Cond.native arraycopyName ∈ tg) (hl3 : Cond.static arraycopyName ∈ tg) (hl4 : Cond.initialized "java/lang/System" ∈ tg) (hk1 : K i = (103, m1)) (hk2 : K j = (103, m2)) (hx : x = c) (hc1 : c ≤ m1) (hc2 : c ≤ m2) (hm : c < 2 ^ 31) (hfr : 1 ≤ rm.frames) (hlo : (st.map fun v => v.category).sum + 18 ≤ rm.locals) (hp : pc + 3 = pc2)
    (kk : wp Γ cells slots Q pc2 lo st n K I (cpyL L i j c) R) : wp Γ cells slots Q pc lo (.int (iI x) :: .int (iI 0) :: .ref j :: .int (iI 0) :: .ref i :: st) n K I L R :=
  w_copyL C hd hl1 hl2 hl3 hl4 hk1 hk2 (iI_n hx) hc1 hc2 hm hfr hlo hp kk
end ZC
/-- a Matter at b: its cells one behind the other -/
def LySc (K : wKd) (R : wRf) (b : Nat) : Prop := K b = (5, 0) ∧ R b 0 = some (b + 1) ∧ R b 1 = some (b + 2) ∧ K (b + 1) = (100, 100) ∧ K (b + 2) = (100, 100)
def LyTo (K : wKd) (R : wRf) (b : Nat) : Prop := K b = (8, 0) ∧ R b 0 = some (b + 1) ∧ R b 2 = some (b + 2) ∧ K (b + 1) = (100, 24) ∧ K (b + 2) = (100, 100)
def LyDr (K : wKd) (R : wRf) (b : Nat) : Prop := K b = (1, 0) ∧ R b 0 = some (b + 1) ∧ R b 1 = some (b + 2) ∧ K (b + 1) = (100, 100) ∧ K (b + 2) = (100, 100)
def LyCl (K : wKd) (R : wRf) (b : Nat) : Prop := K b = (0, 0) ∧ R b 0 = some (b + 1) ∧ K (b + 1) = (103, 24)
def LyM (K : wKd) (R : wRf) (b : Nat) : Prop := K b = (2, 0) ∧ R b 0 = some (b + 1) ∧ R b 1 = some (b + 4) ∧ R b 2 = some (b + 7) ∧ R b 3 = some (b + 10) ∧ LySc K R (b + 1) ∧ LyTo K R (b + 4) ∧ LyDr K R (b + 7) ∧ LyCl K R (b + 10)
theorem Ly.m {K : wKd} {R : wRf} (hy : Ly K R) : LyM K R 11 := ⟨hy.k 11, hy.r 11 0, hy.r 11 1, hy.r 11 2, hy.r 11 3, ⟨hy.k 12, hy.r 12 0, hy.r 12 1, hy.k 13, hy.k 14⟩, ⟨hy.k 15, hy.r 15 0, hy.r 15 2, hy.k 16, hy.k 17⟩, ⟨hy.k 18, hy.r 18 0, hy.r 18 1, hy.k 19, hy.k 20⟩, ⟨hy.k 21, hy.r 21 0, hy.k 22⟩⟩
theorem Ly.d {K : wKd} {R : wRf} (hy : Ly K R) : LySc K R 4 := ⟨hy.k 4, hy.r 4 0, hy.r 4 1, hy.k 5, hy.k 6⟩
/-- copies of a Score, of Tones, of a Drum, of Clappers: from b to a -/
def cpSc (J : wJn) (a b : Nat) : wJn :=
  let J1 := cpyJ J (b + 1) (a + 1) 100
  let J2 := cpyJ J1 (b + 2) (a + 2) 100
  let J3 := up2 J2 a 2 (J2 b 2)
  up2 J3 a 3 (J3 b 3)
def cpTo (J : wJn) (a b : Nat) : wJn :=
  let J1 := cpyJ J (b + 1) (a + 1) 24
  up2 J1 a 1 (J1 b 1)
def cpDr (J : wJn) (a b : Nat) : wJn :=
  let J1 := cpyJ J (b + 1) (a + 1) 100
  let J2 := cpyJ J1 (b + 2) (a + 2) 100
  let J3 := up2 J2 a 2 (J2 b 2)
  let J4 := up2 J3 a 3 (J3 b 3)
  up2 J4 a 4 (J4 b 4)
def cpMa (J : wJn) (a b : Nat) : wJn :=
  let J1 := cpDr (cpTo (cpSc J (a + 1) (b + 1)) (a + 4) (b + 4)) (a + 7) (b + 7)
  let J2 := up2 J1 a 4 (J1 b 4)
  let J3 := up2 J2 a 5 (J2 b 5)
  let J4 := up2 J3 a 6 (J3 b 6)
  up2 J4 a 7 (J4 b 7)
section COPY
variable {n : Nat} {K : wKd} {J : wJn} {L : wLn} {R : wRf}
theorem s_X5_copyFrom {a b : Nat} (ha : LySc K R a) (hb : LySc K R b) : S_X5_copyFrom [.ref a, .ref b] n K (zw J) L R (Det none n K (zw (cpSc J a b)) L R) := by
  obtain ⟨ha1, ha2, ha3, ha4, ha5⟩ := ha
  obtain ⟨hb1, hb2, hb3, hb4, hb5⟩ := hb
  refine Sp_intro [some (.ref a), some (.ref b)] rfl rfl (Nat.le_of_ble_eq_true rfl) rfl ?_
  intro Γ C
  replace C : C_X5_copyFrom Γ := C
  refine w_aload_n (pc2 := 1) C dX5_copyFrom_0 rfl rfl ?_
  refine w_getR (pc2 := 4) C dX5_copyFrom_1 fl_X5_9 (by first | exact hy.k _ | assumption) (by first | exact hy.r _ _ | assumption) rfl ?_
  refine w_iconst (pc2 := 5) (v := iI 0) C dX5_copyFrom_4 (by decide) rfl ?_
  refine w_aload_n (pc2 := 6) C dX5_copyFrom_5 rfl rfl ?_
  refine w_getR (pc2 := 9) C dX5_copyFrom_6 fl_X5_9 (by first | exact hy.k _ | assumption) (by first | exact hy.r _ _ | assumption) rfl ?_
  refine w_iconst (pc2 := 10) (v := iI 0) C dX5_copyFrom_9 (by decide) rfl ?_
  refine w_bipush (pc2 := 12) (v := iI 100) C dX5_copyFrom_10 (by decide) rfl ?_
  -- at 12: .invokestatic 31
  refine z_copyI (pc2 := 15) (c := 100) C dX5_copyFrom_12 cp_X5_31 js_nat js_st js_ini (by first | exact hy.k _ | assumption) (by first | exact hy.k _ | assumption) (by rfl) (by decide) (by decide) (by decide) (by decide) (Nat.le_of_ble_eq_true rfl) rfl ?_
  refine w_aload_n (pc2 := 16) C dX5_copyFrom_15 rfl rfl ?_
  refine w_getR (pc2 := 19) C dX5_copyFrom_16 fl_X5_15 (by first | exact hy.k _ | assumption) (by first | exact hy.r _ _ | assumption) rfl ?_
  refine w_iconst (pc2 := 20) (v := iI 0) C dX5_copyFrom_19 (by decide) rfl ?_
  refine w_aload_n (pc2 := 21) C dX5_copyFrom_20 rfl rfl ?_
  refine w_getR (pc2 := 24) C dX5_copyFrom_21 fl_X5_15 (by first | exact hy.k _ | assumption) (by first | exact hy.r _ _ | assumption) rfl ?_
  refine w_iconst (pc2 := 25) (v := iI 0) C dX5_copyFrom_24 (by decide) rfl ?_
  refine w_bipush (pc2 := 27) (v := iI 100) C dX5_copyFrom_25 (by decide) rfl ?_
  -- at 27: .invokestatic 31
  refine z_copyI (pc2 := 30) (c := 100) C dX5_copyFrom_27 cp_X5_31 js_nat js_st js_ini (by first | exact hy.k _ | assumption) (by first | exact hy.k _ | assumption) (by rfl) (by decide) (by decide) (by decide) (by decide) (Nat.le_of_ble_eq_true rfl) rfl ?_
  refine w_aload_n (pc2 := 31) C dX5_copyFrom_30 rfl rfl ?_
  refine w_aload_n (pc2 := 32) C dX5_copyFrom_31 rfl rfl ?_
  refine z_getI (pc2 := 35) C dX5_copyFrom_32 fl_X5_18 (by first | exact hy.k _ | assumption) rfl ?_
  refine z_putI (pc2 := 38) C dX5_copyFrom_35 fl_X5_18 (by first | exact hy.k _ | assumption) (by rfl) (by rfl) rfl ?_
  refine w_aload_n (pc2 := 39) C dX5_copyFrom_38 rfl rfl ?_
  refine w_aload_n (pc2 := 40) C dX5_copyFrom_39 rfl rfl ?_
  refine z_getI (pc2 := 43) C dX5_copyFrom_40 fl_X5_22 (by first | exact hy.k _ | assumption) rfl ?_
  refine z_putI (pc2 := 46) C dX5_copyFrom_43 fl_X5_22 (by first | exact hy.k _ | assumption) (by rfl) (by rfl) rfl ?_
  -- at 46: .return_
  exact w_ret C dX5_copyFrom_46 (by decide) (by decide) (⟨rfl, rfl, rfl, rfl, rfl, rfl⟩)
theorem s_X8_copyFrom {a b : Nat} (ha : LyTo K R a) (hb : LyTo K R b) : S_X8_copyFrom [.ref a, .ref b] n K (zw J) L R (Det none n K (zw (cpTo J a b)) L R) := by
  obtain ⟨ha1, ha2, ha3, ha4, ha5⟩ := ha
  obtain ⟨hb1, hb2, hb3, hb4, hb5⟩ := hb
  refine Sp_intro [some (.ref a), some (.ref b)] rfl rfl (Nat.le_of_ble_eq_true rfl) rfl ?_
  intro Γ C
  replace C : C_X8_copyFrom Γ := C
  refine w_aload_n (pc2 := 1) C dX8_copyFrom_0 rfl rfl ?_
  refine w_getR (pc2 := 4) C dX8_copyFrom_1 fl_X8_9 (by first | exact hy.k _ | assumption) (by first | exact hy.r _ _ | assumption) rfl ?_
  refine w_iconst (pc2 := 5) (v := iI 0) C dX8_copyFrom_4 (by decide) rfl ?_
  refine w_aload_n (pc2 := 6) C dX8_copyFrom_5 rfl rfl ?_
  refine w_getR (pc2 := 9) C dX8_copyFrom_6 fl_X8_9 (by first | exact hy.k _ | assumption) (by first | exact hy.r _ _ | assumption) rfl ?_
  refine w_iconst (pc2 := 10) (v := iI 0) C dX8_copyFrom_9 (by decide) rfl ?_
  refine w_bipush (pc2 := 12) (v := iI 24) C dX8_copyFrom_10 (by decide) rfl ?_
  -- at 12: .invokestatic 57
  refine z_copyI (pc2 := 15) (c := 24) C dX8_copyFrom_12 cp_X8_57 js_nat js_st js_ini (by first | exact hy.k _ | assumption) (by first | exact hy.k _ | assumption) (by rfl) (by decide) (by decide) (by decide) (by decide) (Nat.le_of_ble_eq_true rfl) rfl ?_
  refine w_aload_n (pc2 := 16) C dX8_copyFrom_15 rfl rfl ?_
  refine w_aload_n (pc2 := 17) C dX8_copyFrom_16 rfl rfl ?_
  refine z_getI (pc2 := 20) C dX8_copyFrom_17 fl_X8_15 (by first | exact hy.k _ | assumption) rfl ?_
  refine z_putI (pc2 := 23) C dX8_copyFrom_20 fl_X8_15 (by first | exact hy.k _ | assumption) (by rfl) (by rfl) rfl ?_
  -- at 23: .return_
  exact w_ret C dX8_copyFrom_23 (by decide) (by decide) (⟨rfl, rfl, rfl, rfl, rfl, rfl⟩)
theorem s_X1_copyFrom {a b : Nat} (ha : LyDr K R a) (hb : LyDr K R b) : S_X1_copyFrom [.ref a, .ref b] n K (zw J) L R (Det none n K (zw (cpDr J a b)) L R) := by
  obtain ⟨ha1, ha2, ha3, ha4, ha5⟩ := ha
  obtain ⟨hb1, hb2, hb3, hb4, hb5⟩ := hb
  refine Sp_intro [some (.ref a), some (.ref b)] rfl rfl (Nat.le_of_ble_eq_true rfl) rfl ?_
  intro Γ C
  replace C : C_X1_copyFrom Γ := C
  refine w_aload_n (pc2 := 1) C dX1_copyFrom_0 rfl rfl ?_
  refine w_getR (pc2 := 4) C dX1_copyFrom_1 fl_X1_9 (by first | exact hy.k _ | assumption) (by first | exact hy.r _ _ | assumption) rfl ?_
  refine w_iconst (pc2 := 5) (v := iI 0) C dX1_copyFrom_4 (by decide) rfl ?_
  refine w_aload_n (pc2 := 6) C dX1_copyFrom_5 rfl rfl ?_
  refine w_getR (pc2 := 9) C dX1_copyFrom_6 fl_X1_9 (by first | exact hy.k _ | assumption) (by first | exact hy.r _ _ | assumption) rfl ?_
  refine w_iconst (pc2 := 10) (v := iI 0) C dX1_copyFrom_9 (by decide) rfl ?_
  refine w_bipush (pc2 := 12) (v := iI 100) C dX1_copyFrom_10 (by decide) rfl ?_
  -- at 12: .invokestatic 37
  refine z_copyI (pc2 := 15) (c := 100) C dX1_copyFrom_12 cp_X1_37 js_nat js_st js_ini (by first | exact hy.k _ | assumption) (by first | exact hy.k _ | assumption) (by rfl) (by decide) (by decide) (by decide) (by decide) (Nat.le_of_ble_eq_true rfl) rfl ?_
  refine w_aload_n (pc2 := 16) C dX1_copyFrom_15 rfl rfl ?_
  refine w_getR (pc2 := 19) C dX1_copyFrom_16 fl_X1_15 (by first | exact hy.k _ | assumption) (by first | exact hy.r _ _ | assumption) rfl ?_
  refine w_iconst (pc2 := 20) (v := iI 0) C dX1_copyFrom_19 (by decide) rfl ?_
  refine w_aload_n (pc2 := 21) C dX1_copyFrom_20 rfl rfl ?_
  refine w_getR (pc2 := 24) C dX1_copyFrom_21 fl_X1_15 (by first | exact hy.k _ | assumption) (by first | exact hy.r _ _ | assumption) rfl ?_
  refine w_iconst (pc2 := 25) (v := iI 0) C dX1_copyFrom_24 (by decide) rfl ?_
  refine w_bipush (pc2 := 27) (v := iI 100) C dX1_copyFrom_25 (by decide) rfl ?_
  -- at 27: .invokestatic 37
  refine z_copyI (pc2 := 30) (c := 100) C dX1_copyFrom_27 cp_X1_37 js_nat js_st js_ini (by first | exact hy.k _ | assumption) (by first | exact hy.k _ | assumption) (by rfl) (by decide) (by decide) (by decide) (by decide) (Nat.le_of_ble_eq_true rfl) rfl ?_
  refine w_aload_n (pc2 := 31) C dX1_copyFrom_30 rfl rfl ?_
  refine w_aload_n (pc2 := 32) C dX1_copyFrom_31 rfl rfl ?_
  refine z_getI (pc2 := 35) C dX1_copyFrom_32 fl_X1_18 (by first | exact hy.k _ | assumption) rfl ?_
  refine z_putI (pc2 := 38) C dX1_copyFrom_35 fl_X1_18 (by first | exact hy.k _ | assumption) (by rfl) (by rfl) rfl ?_
  refine w_aload_n (pc2 := 39) C dX1_copyFrom_38 rfl rfl ?_
  refine w_aload_n (pc2 := 40) C dX1_copyFrom_39 rfl rfl ?_
  refine z_getI (pc2 := 43) C dX1_copyFrom_40 fl_X1_22 (by first | exact hy.k _ | assumption) rfl ?_
  refine z_putI (pc2 := 46) C dX1_copyFrom_43 fl_X1_22 (by first | exact hy.k _ | assumption) (by rfl) (by rfl) rfl ?_
  refine w_aload_n (pc2 := 47) C dX1_copyFrom_46 rfl rfl ?_
  refine w_aload_n (pc2 := 48) C dX1_copyFrom_47 rfl rfl ?_
  refine z_getI (pc2 := 51) C dX1_copyFrom_48 fl_X1_25 (by first | exact hy.k _ | assumption) rfl ?_
  refine z_putI (pc2 := 54) C dX1_copyFrom_51 fl_X1_25 (by first | exact hy.k _ | assumption) (by rfl) (by rfl) rfl ?_
  -- at 54: .return_
  exact w_ret C dX1_copyFrom_54 (by decide) (by decide) (⟨rfl, rfl, rfl, rfl, rfl, rfl⟩)
theorem s_X0_copyFrom {a b : Nat} (ha : LyCl K R a) (hb : LyCl K R b) : S_X0_copyFrom [.ref a, .ref b] n K (zw J) L R (Det none n K (zw J) (cpyL L (b + 1) (a + 1) 24) R) := by
  obtain ⟨ha1, ha2, ha3⟩ := ha
  obtain ⟨hb1, hb2, hb3⟩ := hb
  refine Sp_intro [some (.ref a), some (.ref b)] rfl rfl (Nat.le_of_ble_eq_true rfl) rfl ?_
  intro Γ C
  replace C : C_X0_copyFrom Γ := C
  refine w_aload_n (pc2 := 1) C dX0_copyFrom_0 rfl rfl ?_
  refine w_getR (pc2 := 4) C dX0_copyFrom_1 fl_X0_9 (by first | exact hy.k _ | assumption) (by first | exact hy.r _ _ | assumption) rfl ?_
  refine w_iconst (pc2 := 5) (v := iI 0) C dX0_copyFrom_4 (by decide) rfl ?_
  refine w_aload_n (pc2 := 6) C dX0_copyFrom_5 rfl rfl ?_
  refine w_getR (pc2 := 9) C dX0_copyFrom_6 fl_X0_9 (by first | exact hy.k _ | assumption) (by first | exact hy.r _ _ | assumption) rfl ?_
  refine w_iconst (pc2 := 10) (v := iI 0) C dX0_copyFrom_9 (by decide) rfl ?_
  refine w_bipush (pc2 := 12) (v := iI 24) C dX0_copyFrom_10 (by decide) rfl ?_
  -- at 12: .invokestatic 36
  refine z_copyL (pc2 := 15) (c := 24) C dX0_copyFrom_12 cp_X0_36 js_nat js_st js_ini (by first | exact hy.k _ | assumption) (by first | exact hy.k _ | assumption) (by rfl) (by decide) (by decide) (by decide) (by decide) (Nat.le_of_ble_eq_true rfl) rfl ?_
  -- at 15: .return_
  exact w_ret C dX0_copyFrom_15 (by decide) (by decide) (⟨rfl, rfl, rfl, rfl, rfl, rfl⟩)
theorem s_X2_copyFrom {a b : Nat} (ha : LyM K R a) (hb : LyM K R b) : S_X2_copyFrom [.ref a, .ref b] n K (zw J) L R (Det none n K (zw (cpMa J a b)) (cpyL L (b + 11) (a + 11) 24) R) := by
  obtain ⟨ha1, ha2, ha3, ha4, ha5, ha6, ha7, ha8, ha9⟩ := ha
  obtain ⟨hb1, hb2, hb3, hb4, hb5, hb6, hb7, hb8, hb9⟩ := hb
  have k1 := ha6.1
  have k4 := ha7.1
  have k7 := ha8.1
  have k10 := ha9.1
  refine Sp_intro [some (.ref a), some (.ref b)] rfl rfl (Nat.le_of_ble_eq_true rfl) rfl ?_
  intro Γ C
  replace C : C_X2_copyFrom Γ := C
  refine w_aload_n (pc2 := 1) C dX2_copyFrom_0 rfl rfl ?_
  refine w_getR (pc2 := 4) C dX2_copyFrom_1 fl_X2_12 (by first | exact hy.k _ | assumption) (by first | exact hy.r _ _ | assumption) rfl ?_
  refine w_aload_n (pc2 := 5) C dX2_copyFrom_4 rfl rfl ?_
  refine w_getR (pc2 := 8) C dX2_copyFrom_5 fl_X2_12 (by first | exact hy.k _ | assumption) (by first | exact hy.r _ _ | assumption) rfl ?_
  -- at 8: .invokevirtual 52
  refine w_cVv (pc2 := 11)  C dX2_copyFrom_8 mb_X2_52 mv_X5_copyFrom (s_X5_copyFrom ha6 hb6) (by first | exact hy.k _ | assumption) rfl (by decide) rfl rfl (Nat.le_of_ble_eq_true rfl) ⟨by decide, by decide⟩ ⟨rfl, rfl⟩ ⟨by decide, by decide⟩ rfl ?_
  refine w_aload_n (pc2 := 12) C dX2_copyFrom_11 rfl rfl ?_
  refine w_getR (pc2 := 15) C dX2_copyFrom_12 fl_X2_21 (by first | exact hy.k _ | assumption) (by first | exact hy.r _ _ | assumption) rfl ?_
  refine w_aload_n (pc2 := 16) C dX2_copyFrom_15 rfl rfl ?_
  refine w_getR (pc2 := 19) C dX2_copyFrom_16 fl_X2_21 (by first | exact hy.k _ | assumption) (by first | exact hy.r _ _ | assumption) rfl ?_
  -- at 19: .invokevirtual 56
  refine w_cVv (pc2 := 22)  C dX2_copyFrom_19 mb_X2_56 mv_X8_copyFrom (s_X8_copyFrom ha7 hb7) (by first | exact hy.k _ | assumption) rfl (by decide) rfl rfl (Nat.le_of_ble_eq_true rfl) ⟨by decide, by decide⟩ ⟨rfl, rfl⟩ ⟨by decide, by decide⟩ rfl ?_
  refine w_aload_n (pc2 := 23) C dX2_copyFrom_22 rfl rfl ?_
  refine w_getR (pc2 := 26) C dX2_copyFrom_23 fl_X2_28 (by first | exact hy.k _ | assumption) (by first | exact hy.r _ _ | assumption) rfl ?_
  refine w_aload_n (pc2 := 27) C dX2_copyFrom_26 rfl rfl ?_
  refine w_getR (pc2 := 30) C dX2_copyFrom_27 fl_X2_28 (by first | exact hy.k _ | assumption) (by first | exact hy.r _ _ | assumption) rfl ?_
  -- at 30: .invokevirtual 59
  refine w_cVv (pc2 := 33)  C dX2_copyFrom_30 mb_X2_59 mv_X1_copyFrom (s_X1_copyFrom ha8 hb8) (by first | exact hy.k _ | assumption) rfl (by decide) rfl rfl (Nat.le_of_ble_eq_true rfl) ⟨by decide, by decide⟩ ⟨rfl, rfl⟩ ⟨by decide, by decide⟩ rfl ?_
  refine w_aload_n (pc2 := 34) C dX2_copyFrom_33 rfl rfl ?_
  refine w_getR (pc2 := 37) C dX2_copyFrom_34 fl_X2_35 (by first | exact hy.k _ | assumption) (by first | exact hy.r _ _ | assumption) rfl ?_
  refine w_aload_n (pc2 := 38) C dX2_copyFrom_37 rfl rfl ?_
  refine w_getR (pc2 := 41) C dX2_copyFrom_38 fl_X2_35 (by first | exact hy.k _ | assumption) (by first | exact hy.r _ _ | assumption) rfl ?_
  -- at 41: .invokevirtual 62
  refine w_cVv (pc2 := 44)  C dX2_copyFrom_41 mb_X2_62 mv_X0_copyFrom (s_X0_copyFrom ha9 hb9) (by first | exact hy.k _ | assumption) rfl (by decide) rfl rfl (Nat.le_of_ble_eq_true rfl) ⟨by decide, by decide⟩ ⟨rfl, rfl⟩ ⟨by decide, by decide⟩ rfl ?_
  refine w_aload_n (pc2 := 45) C dX2_copyFrom_44 rfl rfl ?_
  refine w_aload_n (pc2 := 46) C dX2_copyFrom_45 rfl rfl ?_
  refine z_getI (pc2 := 49) C dX2_copyFrom_46 fl_X2_39 (by first | exact hy.k _ | assumption) rfl ?_
  refine z_putI (pc2 := 52) C dX2_copyFrom_49 fl_X2_39 (by first | exact hy.k _ | assumption) (by rfl) (by rfl) rfl ?_
  refine w_aload_n (pc2 := 53) C dX2_copyFrom_52 rfl rfl ?_
  refine w_aload_n (pc2 := 54) C dX2_copyFrom_53 rfl rfl ?_
  refine z_getI (pc2 := 57) C dX2_copyFrom_54 fl_X2_43 (by first | exact hy.k _ | assumption) rfl ?_
  refine z_putI (pc2 := 60) C dX2_copyFrom_57 fl_X2_43 (by first | exact hy.k _ | assumption) (by rfl) (by rfl) rfl ?_
  refine w_aload_n (pc2 := 61) C dX2_copyFrom_60 rfl rfl ?_
  refine w_aload_n (pc2 := 62) C dX2_copyFrom_61 rfl rfl ?_
  refine z_getI (pc2 := 65) C dX2_copyFrom_62 fl_X2_46 (by first | exact hy.k _ | assumption) rfl ?_
  refine z_putI (pc2 := 68) C dX2_copyFrom_65 fl_X2_46 (by first | exact hy.k _ | assumption) (by rfl) (by rfl) rfl ?_
  refine w_aload_n (pc2 := 69) C dX2_copyFrom_68 rfl rfl ?_
  refine w_aload_n (pc2 := 70) C dX2_copyFrom_69 rfl rfl ?_
  refine z_getI (pc2 := 73) C dX2_copyFrom_70 fl_X2_49 (by first | exact hy.k _ | assumption) rfl ?_
  refine z_putI (pc2 := 76) C dX2_copyFrom_73 fl_X2_49 (by first | exact hy.k _ | assumption) (by rfl) (by rfl) rfl ?_
  -- at 76: .return_
  exact w_ret C dX2_copyFrom_76 (by decide) (by decide) (⟨rfl, rfl, rfl, rfl, rfl, rfl⟩)
end COPY
end
section
/-! ===== sounding and quarrelling, by the class ===== -/
/-- the SCORE's numbers are as they should be -/
def Mus (J : wJn) (c : Nat) : Prop := J 12 2 = c ∧ c ≤ 100 ∧ ∀ i, i < c → 0 ≤ J 13 i ∧ J 13 i ≤ 3000 ∧ 0 ≤ J 14 i ∧ J 14 i < 24
def Tai (J : wJn) : Prop := ∀ i, i < 24 → 1 ≤ J 16 i ∧ J 16 i ≤ 60
/-- how long STRIKE k sounds: looking from i on, d STRIKES left -/
def slF (tk bl : Nat → Int) (tail : Int) (k : Nat) : Nat → Nat → Int
  | 0, _ => tail
  | d + 1, i => if bl i = bl k then min tail (tk i - tk k) else slF tk bl tail k d (i + 1)
def sndC (J : wJn) (c k : Nat) : Int := slF (J 13) (J 14) (J 16 (J 14 k).toNat) k (c - (k + 1)) (k + 1)
theorem slF_bd {tk bl : Nat → Int} {tail : Int} {k c : Nat} (ht : -10000 ≤ tail ∧ tail ≤ 10000) (hk : k < c) (hb : ∀ i, i < c → 0 ≤ tk i ∧ tk i ≤ 3000) : ∀ d i, i + d ≤ c → -10000 ≤ slF tk bl tail k d i ∧ slF tk bl tail k d i ≤ 10000
  | 0, i, _ => ht
  | d + 1, i, h => by
    simp only [slF]
    have h1 := hb i (by omega)
    have h2 := hb k hk
    split
    · omega
    · exact slF_bd ht hk hb d (i + 1) (by omega)
theorem sndC_bd {J : wJn} {c k : Nat} (hm : Mus J c) (ht : Tai J) (hk : k < c) : -10000 ≤ sndC J c k ∧ sndC J c k ≤ 10000 := by
  have h1 := hm.2.2 k hk
  have h2 := ht (J 14 k).toNat (by omega)
  exact slF_bd (by omega) hk (fun i hi => ⟨(hm.2.2 i hi).1, (hm.2.2 i hi).2.1⟩) _ _ (by omega)
def qbit (bits r : Int) : Int32 := (iI bits >>> (iI r &&& 31)) &&& iI 1
def canQ (J : wJn) (a b : Nat) : Bool := decide (¬ (J 14 b - J 14 a).natAbs = 0 ∧ ¬ qbit (J 15 1) (((J 14 b - J 14 a).natAbs : Int) % 12) = 0)
section SOUND
variable {n : Nat} {K : wKd} {J : wJn} {L : wLn} {R : wRf}
theorem s_X5_bellsBetween (hy : Ly K R) {c a b : Nat} (hm : Mus J c) (ha : a < c) (hb : b < c) : S_X5_bellsBetween [.ref 12, .int (iI a), .int (iI b)] n K (zw J) L R (Det (some (.int (iI (J 14 b - J 14 a).natAbs))) n K (zw J) L R) := by
  have h1 := hm.2.1
  have h2 := hm.2.2 a ha
  have h3 := hm.2.2 b hb
  refine Sp_intro [some (.ref 12), some (.int (iI a)), some (.int (iI b))] rfl rfl (Nat.le_of_ble_eq_true rfl) rfl ?_
  intro Γ C
  replace C : C_X5_bellsBetween Γ := C
  refine w_aload_n (pc2 := 1) C dX5_bellsBetween_0 rfl rfl ?_
  refine w_getR (pc2 := 4) C dX5_bellsBetween_1 fl_X5_15 (by first | exact hy.k _ | assumption) (by first | exact hy.r _ _ | assumption) rfl ?_
  refine w_iload_n (pc2 := 5) C dX5_bellsBetween_4 rfl rfl ?_
  -- at 5: .iaload
  refine z_iald (pc2 := 6) (j := b) C dX5_bellsBetween_5 (by first | exact hy.k _ | assumption) (by omega) (by omega) (by decide) rfl ?_
  refine w_aload_n (pc2 := 7) C dX5_bellsBetween_6 rfl rfl ?_
  refine w_getR (pc2 := 10) C dX5_bellsBetween_7 fl_X5_15 (by first | exact hy.k _ | assumption) (by first | exact hy.r _ _ | assumption) rfl ?_
  refine w_iload_n (pc2 := 11) C dX5_bellsBetween_10 rfl rfl ?_
  -- at 11: .iaload
  refine z_iald (pc2 := 12) (j := a) C dX5_bellsBetween_11 (by first | exact hy.k _ | assumption) (by omega) (by omega) (by decide) rfl ?_
  refine z_isub (pc2 := 13) C dX5_bellsBetween_12 rfl ?_
  refine z_mabs (pc2 := 16) C dX5_bellsBetween_13 mm_X5_25 jm_abs jm_ini jc_abs (by decide) (Nat.le_of_ble_eq_true rfl) (by decide) (by decide) rfl (by omega) ?_
  -- at 16: .ireturn
  exact w_iret C dX5_bellsBetween_16 (by decide) (by decide) (⟨rfl, rfl, rfl, rfl, rfl, rfl⟩)
theorem s_X8_soundLength (hy : Ly K R) {c k : Nat} (hm : Mus J c) (ht : Tai J) (hk : k < c) : S_X8_soundLength [.ref 15, .ref 12, .int (iI k)] n K (zw J) L R (Det (some (.int (iI (sndC J c k)))) n K (zw J) L R) := by
  have hc := hm.1
  have hc2 := hm.2.1
  have h2 := hm.2.2 k hk
  have h3 := ht (J 14 k).toNat (by omega)
  refine Sp_intro [some (.ref 15), some (.ref 12), some (.int (iI k)), none, none] rfl rfl (Nat.le_of_ble_eq_true rfl) rfl ?_
  intro Γ C
  replace C : C_X8_soundLength Γ := C
  have key : ∀ (d i : Nat), i + d = c → ∀ v : Int, v = slF (J 13) (J 14) (J 16 (J 14 k).toNat) k d i → wp Γ 0 0 (QQ Γ (Det (some (.int (iI v))) n K (zw J) L R)) 17 [some (.ref 15), some (.ref 12), some (.int (iI k)), some (.int (iI (J 16 (J 14 k).toNat))), some (.int (iI i))] [] n K (zw J) L R := by
    intro d
    induction d with
    | zero =>
      intro i hi v hv
      refine w_iload (pc2 := 19) C dX8_soundLength_17 rfl rfl ?_
      refine w_aload_n (pc2 := 20) C dX8_soundLength_19 rfl rfl ?_
      refine z_getI (pc2 := 23) C dX8_soundLength_20 fl_X8_27 (by first | exact hy.k _ | assumption) rfl ?_
      -- at 23: .if_icmp .ge 44
      refine z_icmp_ge (pc2 := 26) (tgt := 67) C dX8_soundLength_23 (by decide) rfl (by omega) (by omega) (fun h4 => ?_) (fun h4 => ?_)
      · skip
        refine w_iload_n (pc2 := 68) C dX8_soundLength_67 rfl rfl ?_
        -- at 68: .ireturn
        exact w_iret C dX8_soundLength_68 (by decide) (by decide) (DetI (by rw [hv]; rfl) rfl)
      · exact absurd hi (by omega)
    | succ d ih =>
      intro i hi v hv
      have h5 := hm.2.2 i (by omega)
      refine w_iload (pc2 := 19) C dX8_soundLength_17 rfl rfl ?_
      refine w_aload_n (pc2 := 20) C dX8_soundLength_19 rfl rfl ?_
      refine z_getI (pc2 := 23) C dX8_soundLength_20 fl_X8_27 (by first | exact hy.k _ | assumption) rfl ?_
      -- at 23: .if_icmp .ge 44
      refine z_icmp_ge (pc2 := 26) (tgt := 67) C dX8_soundLength_23 (by decide) rfl (by omega) (by omega) (fun h4 => ?_) (fun h4 => ?_)
      · exact absurd hi (by omega)
      · skip
        refine w_aload_n (pc2 := 27) C dX8_soundLength_26 rfl rfl ?_
        refine w_getR (pc2 := 30) C dX8_soundLength_27 fl_X8_22 (by first | exact hy.k _ | assumption) (by first | exact hy.r _ _ | assumption) rfl ?_
        refine w_iload (pc2 := 32) C dX8_soundLength_30 rfl rfl ?_
        -- at 32: .iaload
        refine z_iald (pc2 := 33) (j := i) C dX8_soundLength_32 (by first | exact hy.k _ | assumption) (by omega) (by omega) (by decide) rfl ?_
        refine w_aload_n (pc2 := 34) C dX8_soundLength_33 rfl rfl ?_
        refine w_getR (pc2 := 37) C dX8_soundLength_34 fl_X8_22 (by first | exact hy.k _ | assumption) (by first | exact hy.r _ _ | assumption) rfl ?_
        refine w_iload_n (pc2 := 38) C dX8_soundLength_37 rfl rfl ?_
        -- at 38: .iaload
        refine z_iald (pc2 := 39) (j := k) C dX8_soundLength_38 (by first | exact hy.k _ | assumption) (by omega) (by omega) (by decide) rfl ?_
        -- at 39: .if_icmp .ne 22
        refine z_icmp_ne (pc2 := 42) (tgt := 61) C dX8_soundLength_39 (by decide) rfl (by omega) (by omega) (fun h6 => ?_) (fun h6 => ?_)
        · skip
          refine w_iinc (pc2 := 64) C dX8_soundLength_61 rfl (iI_add _ _) rfl (by decide) rfl rfl ?_
          try dsimp only [List.set]
          refine w_goto (tgt := 17) C dX8_soundLength_64 (by decide) ?_
          -- at 17: .iload 4
          exact ih (i + 1) (by omega) v (by rw [hv, slF, if_neg h6])
        · skip
          refine w_iload_n (pc2 := 43) C dX8_soundLength_42 rfl rfl ?_
          refine w_aload_n (pc2 := 44) C dX8_soundLength_43 rfl rfl ?_
          refine w_getR (pc2 := 47) C dX8_soundLength_44 fl_X8_30 (by first | exact hy.k _ | assumption) (by first | exact hy.r _ _ | assumption) rfl ?_
          refine w_iload (pc2 := 49) C dX8_soundLength_47 rfl rfl ?_
          -- at 49: .iaload
          refine z_iald (pc2 := 50) (j := i) C dX8_soundLength_49 (by first | exact hy.k _ | assumption) (by omega) (by omega) (by decide) rfl ?_
          refine w_aload_n (pc2 := 51) C dX8_soundLength_50 rfl rfl ?_
          refine w_getR (pc2 := 54) C dX8_soundLength_51 fl_X8_30 (by first | exact hy.k _ | assumption) (by first | exact hy.r _ _ | assumption) rfl ?_
          refine w_iload_n (pc2 := 55) C dX8_soundLength_54 rfl rfl ?_
          -- at 55: .iaload
          refine z_iald (pc2 := 56) (j := k) C dX8_soundLength_55 (by first | exact hy.k _ | assumption) (by omega) (by omega) (by decide) rfl ?_
          refine z_isub (pc2 := 57) C dX8_soundLength_56 rfl ?_
          refine z_mmin (pc2 := 60) C dX8_soundLength_57 mm_X8_33 jm_min jm_ini jc_min (by decide) (Nat.le_of_ble_eq_true rfl) (by decide) (by decide) rfl (by omega) (by omega) ?_
          -- at 60: .ireturn
          exact w_iret C dX8_soundLength_60 (by decide) (by decide) (DetI (by rw [hv, slF, if_pos h6]) rfl)
  refine w_aload_n (pc2 := 1) C dX8_soundLength_0 rfl rfl ?_
  refine w_getR (pc2 := 4) C dX8_soundLength_1 fl_X8_9 (by first | exact hy.k _ | assumption) (by first | exact hy.r _ _ | assumption) rfl ?_
  refine w_aload_n (pc2 := 5) C dX8_soundLength_4 rfl rfl ?_
  refine w_getR (pc2 := 8) C dX8_soundLength_5 fl_X8_22 (by first | exact hy.k _ | assumption) (by first | exact hy.r _ _ | assumption) rfl ?_
  refine w_iload_n (pc2 := 9) C dX8_soundLength_8 rfl rfl ?_
  -- at 9: .iaload
  refine z_iald (pc2 := 10) (j := k) C dX8_soundLength_9 (by first | exact hy.k _ | assumption) (by omega) (by omega) (by decide) rfl ?_
  refine z_iald (pc2 := 11) (j := (J 14 k).toNat) C dX8_soundLength_10 (by first | exact hy.k _ | assumption) (by omega) (by omega) (by decide) rfl ?_
  refine w_istore_n (pc2 := 12) C dX8_soundLength_11 rfl (by decide) rfl rfl ?_
  try dsimp only [List.set]
  refine w_iload_n (pc2 := 13) C dX8_soundLength_12 rfl rfl ?_
  refine w_iconst (pc2 := 14) (v := iI 1) C dX8_soundLength_13 (by decide) rfl ?_
  refine z_iadd (pc2 := 15) C dX8_soundLength_14 rfl ?_
  refine w_istore (pc2 := 17) C dX8_soundLength_15 rfl (by decide) rfl rfl ?_
  try dsimp only [List.set]
  -- at 17: .iload 4
  exact key (c - (k + 1)) (k + 1) (by omega) _ rfl
theorem s_X10_sounds (hy : Ly K R) {c : Nat} {a : Int} (hm : Mus J c) (ht : Tai J) (ha : R32 a) : S_X10_sounds [.ref 0, .int (iI a)] n K (zw J) L R (Det (some (.int (iI (if 0 ≤ a ∧ a < c then sndC J c a.toNat else -1)))) n K (zw J) L R) := by
  have hc := hm.1
  have hc2 := hm.2.1
  refine Sp_intro [some (.ref 0), some (.int (iI a))] rfl rfl (Nat.le_of_ble_eq_true rfl) rfl ?_
  intro Γ C
  replace C : C_X10_sounds Γ := C
  refine w_aload_n (pc2 := 1) C dX10_sounds_0 rfl rfl ?_
  refine w_getR (pc2 := 4) C dX10_sounds_1 fl_X10_28 (by first | exact hy.k _ | assumption) (by first | exact hy.r _ _ | assumption) rfl ?_
  refine w_getR (pc2 := 7) C dX10_sounds_4 fl_X10_38 (by first | exact hy.k _ | assumption) (by first | exact hy.r _ _ | assumption) rfl ?_
  refine w_iload_n (pc2 := 8) C dX10_sounds_7 rfl rfl ?_
  -- at 8: .invokevirtual 99
  refine w_cVi (pc2 := 11)  C dX10_sounds_8 mb_X10_99 mv_X5_has (s_X5_has (hy.k 12) ha (by omega)) (by first | exact hy.k _ | assumption) rfl (by decide) rfl rfl (Nat.le_of_ble_eq_true rfl) ⟨by decide, by decide⟩ ⟨rfl, rfl⟩ ⟨by decide, by decide⟩ rfl ?_
  -- at 11: .ifCond .ne 5
  refine z_if_ne (pc2 := 14) (tgt := 16) C dX10_sounds_11 (by decide) rfl (by split <;> omega) (fun h1 => ?_) (fun h1 => ?_)
  · have h2 : 0 ≤ a ∧ a < c := by
      rcases Decidable.em (0 ≤ a ∧ a < J 12 2) with q | q
      · omega
      · rw [if_neg q] at h1; exact absurd rfl h1
    have e : a = (a.toNat : Int) := by omega
    refine w_aload_n (pc2 := 17) C dX10_sounds_16 rfl rfl ?_
    refine w_getR (pc2 := 20) C dX10_sounds_17 fl_X10_28 (by first | exact hy.k _ | assumption) (by first | exact hy.r _ _ | assumption) rfl ?_
    refine w_getR (pc2 := 23) C dX10_sounds_20 fl_X10_142 (by first | exact hy.k _ | assumption) (by first | exact hy.r _ _ | assumption) rfl ?_
    refine w_aload_n (pc2 := 24) C dX10_sounds_23 rfl rfl ?_
    refine w_getR (pc2 := 27) C dX10_sounds_24 fl_X10_28 (by first | exact hy.k _ | assumption) (by first | exact hy.r _ _ | assumption) rfl ?_
    refine w_getR (pc2 := 30) C dX10_sounds_27 fl_X10_38 (by first | exact hy.k _ | assumption) (by first | exact hy.r _ _ | assumption) rfl ?_
    refine w_iload_n (pc2 := 31) C dX10_sounds_30 rfl rfl ?_
    -- at 31: .invokevirtual 158
    rw [e]
    refine w_cVi (pc2 := 34)  C dX10_sounds_31 mb_X10_158 mv_X8_soundLength (s_X8_soundLength hy hm ht (k := a.toNat) (by omega)) (by first | exact hy.k _ | assumption) rfl (by decide) rfl rfl (Nat.le_of_ble_eq_true rfl) ⟨by decide, by decide⟩ ⟨rfl, rfl⟩ ⟨by decide, by decide⟩ rfl ?_
    -- at 34: .ireturn
    exact w_iret C dX10_sounds_34 (by decide) (by decide) (DetI (by rw [if_pos (by omega)]; rfl) rfl)
  · have h2 : ¬ (0 ≤ a ∧ a < c) := by
      intro q
      rw [if_pos (by omega)] at h1; exact absurd h1 (by decide)
    refine w_iconst (pc2 := 15) (v := iI (-1)) C dX10_sounds_14 (by decide) rfl ?_
    -- at 15: .ireturn
    exact w_iret C dX10_sounds_15 (by decide) (by decide) (DetI (by rw [if_neg h2]) rfl)
theorem s_X8_canQuarrel (hy : Ly K R) {c a b : Nat} (hm : Mus J c) (ha : a < c) (hb : b < c) : S_X8_canQuarrel [.ref 15, .ref 12, .int (iI a), .int (iI b)] n K (zw J) L R (Det (some (.int (iI (if canQ J a b = true then 1 else 0)))) n K (zw J) L R) := by
  have h2 := hm.2.2 a ha
  have h3 := hm.2.2 b hb
  refine Sp_intro [some (.ref 15), some (.ref 12), some (.int (iI a)), some (.int (iI b)), none] rfl rfl (Nat.le_of_ble_eq_true rfl) rfl ?_
  intro Γ C
  replace C : C_X8_canQuarrel Γ := C
  refine w_aload_n (pc2 := 1) C dX8_canQuarrel_0 rfl rfl ?_
  refine w_iload_n (pc2 := 2) C dX8_canQuarrel_1 rfl rfl ?_
  refine w_iload_n (pc2 := 3) C dX8_canQuarrel_2 rfl rfl ?_
  -- at 3: .invokevirtual 51
  refine w_cVi (pc2 := 6)  C dX8_canQuarrel_3 mb_X8_51 mv_X5_bellsBetween (s_X5_bellsBetween hy hm ha hb) (by first | exact hy.k _ | assumption) rfl (by decide) rfl rfl (Nat.le_of_ble_eq_true rfl) ⟨by decide, by decide⟩ ⟨rfl, rfl⟩ ⟨by decide, by decide⟩ rfl ?_
  refine w_istore (pc2 := 8) C dX8_canQuarrel_6 rfl (by decide) rfl rfl ?_
  try dsimp only [List.set]
  refine w_iload (pc2 := 10) C dX8_canQuarrel_8 rfl rfl ?_
  -- at 10: .ifCond .eq 22
  refine z_if_eq (pc2 := 13) (tgt := 32) C dX8_canQuarrel_10 (by decide) rfl (by omega) (fun h4 => ?_) (fun h4 => ?_)
  · skip
    refine w_iconst (pc2 := 33) (v := iI 0) C dX8_canQuarrel_32 (by decide) rfl ?_
    -- at 33: .ireturn
    exact w_zret C dX8_canQuarrel_33 (Or.inl rfl) (by decide) (by decide) (DetI (by rw [if_neg (by simp only [canQ, decide_eq_true_eq]; intro q; exact q.1 (by omega))]) rfl)
  · skip
    refine w_aload_n (pc2 := 14) C dX8_canQuarrel_13 rfl rfl ?_
    refine z_getI (pc2 := 17) C dX8_canQuarrel_14 fl_X8_15 (by first | exact hy.k _ | assumption) rfl ?_
    refine w_iload (pc2 := 19) C dX8_canQuarrel_17 rfl rfl ?_
    refine w_bipush (pc2 := 21) (v := iI 12) C dX8_canQuarrel_19 (by decide) rfl ?_
    -- at 21: .irem
    refine z_irem (pc2 := 22) C dX8_canQuarrel_21 (by omega) rfl ?_
    refine w_ishr (pc2 := 23) C dX8_canQuarrel_22 rfl ?_
    refine w_iconst (pc2 := 24) (v := iI 1) C dX8_canQuarrel_23 (by decide) rfl ?_
    refine w_iand (pc2 := 25) C dX8_canQuarrel_24 rfl ?_
    -- at 25: .ifCond .eq 7
    refine w_if_eq (pc2 := 28) (tgt := 32) C dX8_canQuarrel_25 (by decide) rfl (fun h5 => ?_) (fun h5 => ?_)
    · skip
      refine w_iconst (pc2 := 33) (v := iI 0) C dX8_canQuarrel_32 (by decide) rfl ?_
      -- at 33: .ireturn
      exact w_zret C dX8_canQuarrel_33 (Or.inl rfl) (by decide) (by decide) (DetI (by rw [if_neg (by simp only [canQ, decide_eq_true_eq]; intro q; exact q.2 h5)]) rfl)
    · skip
      refine w_iconst (pc2 := 29) (v := iI 1) C dX8_canQuarrel_28 (by decide) rfl ?_
      refine w_goto (tgt := 33) C dX8_canQuarrel_29 (by decide) ?_
      -- at 33: .ireturn
      exact w_zret C dX8_canQuarrel_33 (Or.inr rfl) (by decide) (by decide) (DetI (by rw [if_pos (by simp only [canQ, decide_eq_true_eq]; exact ⟨by omega, h5⟩)]) rfl)
theorem s_X8_ticksTogether (hy : Ly K R) {c a b : Nat} (hm : Mus J c) (ha : a < c) (hb : b < c) (hla : -10000 ≤ J 17 a ∧ J 17 a ≤ 10000) (hlb : -10000 ≤ J 17 b ∧ J 17 b ≤ 10000) : S_X8_ticksTogether [.ref 15, .ref 12, .int (iI a), .int (iI b)] n K (zw J) L R (Det (some (.int (iI (max 0 (min (J 13 a + J 17 a) (J 13 b + J 17 b) - J 13 b))))) n K (zw J) L R) := by
  have h1 := hm.2.1
  have h2 := hm.2.2 a ha
  have h3 := hm.2.2 b hb
  refine Sp_intro [some (.ref 15), some (.ref 12), some (.int (iI a)), some (.int (iI b)), none, none] rfl rfl (Nat.le_of_ble_eq_true rfl) rfl ?_
  intro Γ C
  replace C : C_X8_ticksTogether Γ := C
  refine w_aload_n (pc2 := 1) C dX8_ticksTogether_0 rfl rfl ?_
  refine w_getR (pc2 := 4) C dX8_ticksTogether_1 fl_X8_30 (by first | exact hy.k _ | assumption) (by first | exact hy.r _ _ | assumption) rfl ?_
  refine w_iload_n (pc2 := 5) C dX8_ticksTogether_4 rfl rfl ?_
  -- at 5: .iaload
  refine z_iald (pc2 := 6) (j := a) C dX8_ticksTogether_5 (by first | exact hy.k _ | assumption) (by omega) (by omega) (by decide) rfl ?_
  refine w_aload_n (pc2 := 7) C dX8_ticksTogether_6 rfl rfl ?_
  refine w_getR (pc2 := 10) C dX8_ticksTogether_7 fl_X8_19 (by first | exact hy.k _ | assumption) (by first | exact hy.r _ _ | assumption) rfl ?_
  refine w_iload_n (pc2 := 11) C dX8_ticksTogether_10 rfl rfl ?_
  -- at 11: .iaload
  refine z_iald (pc2 := 12) (j := a) C dX8_ticksTogether_11 (by first | exact hy.k _ | assumption) (by omega) (by omega) (by decide) rfl ?_
  refine z_iadd (pc2 := 13) C dX8_ticksTogether_12 rfl ?_
  refine w_istore (pc2 := 15) C dX8_ticksTogether_13 rfl (by decide) rfl rfl ?_
  try dsimp only [List.set]
  refine w_aload_n (pc2 := 16) C dX8_ticksTogether_15 rfl rfl ?_
  refine w_getR (pc2 := 19) C dX8_ticksTogether_16 fl_X8_30 (by first | exact hy.k _ | assumption) (by first | exact hy.r _ _ | assumption) rfl ?_
  refine w_iload_n (pc2 := 20) C dX8_ticksTogether_19 rfl rfl ?_
  -- at 20: .iaload
  refine z_iald (pc2 := 21) (j := b) C dX8_ticksTogether_20 (by first | exact hy.k _ | assumption) (by omega) (by omega) (by decide) rfl ?_
  refine w_aload_n (pc2 := 22) C dX8_ticksTogether_21 rfl rfl ?_
  refine w_getR (pc2 := 25) C dX8_ticksTogether_22 fl_X8_19 (by first | exact hy.k _ | assumption) (by first | exact hy.r _ _ | assumption) rfl ?_
  refine w_iload_n (pc2 := 26) C dX8_ticksTogether_25 rfl rfl ?_
  -- at 26: .iaload
  refine z_iald (pc2 := 27) (j := b) C dX8_ticksTogether_26 (by first | exact hy.k _ | assumption) (by omega) (by omega) (by decide) rfl ?_
  refine z_iadd (pc2 := 28) C dX8_ticksTogether_27 rfl ?_
  refine w_istore (pc2 := 30) C dX8_ticksTogether_28 rfl (by decide) rfl rfl ?_
  try dsimp only [List.set]
  refine w_iconst (pc2 := 31) (v := iI 0) C dX8_ticksTogether_30 (by decide) rfl ?_
  refine w_iload (pc2 := 33) C dX8_ticksTogether_31 rfl rfl ?_
  refine w_iload (pc2 := 35) C dX8_ticksTogether_33 rfl rfl ?_
  refine z_mmin (pc2 := 38) C dX8_ticksTogether_35 mm_X8_33 jm_min jm_ini jc_min (by decide) (Nat.le_of_ble_eq_true rfl) (by decide) (by decide) rfl (by omega) (by omega) ?_
  refine w_aload_n (pc2 := 39) C dX8_ticksTogether_38 rfl rfl ?_
  refine w_getR (pc2 := 42) C dX8_ticksTogether_39 fl_X8_30 (by first | exact hy.k _ | assumption) (by first | exact hy.r _ _ | assumption) rfl ?_
  refine w_iload_n (pc2 := 43) C dX8_ticksTogether_42 rfl rfl ?_
  -- at 43: .iaload
  refine z_iald (pc2 := 44) (j := b) C dX8_ticksTogether_43 (by first | exact hy.k _ | assumption) (by omega) (by omega) (by decide) rfl ?_
  refine z_isub (pc2 := 45) C dX8_ticksTogether_44 rfl ?_
  refine z_mmax (pc2 := 48) C dX8_ticksTogether_45 mm_X8_54 jm_max jm_ini jc_max (by decide) (Nat.le_of_ble_eq_true rfl) (by decide) (by decide) rfl (by omega) (by omega) ?_
  -- at 48: .ireturn
  exact w_iret C dX8_ticksTogether_48 (by decide) (by decide) (⟨rfl, rfl, rfl, rfl, rfl, rfl⟩)
end SOUND
end
section
/-- the first j places of a row told anew -/
def ov (J : wJn) (r : Nat) (f : Nat → Int) (j : Nat) : wJn := fun a b => if a = r ∧ b < j then f b else J a b
theorem ov_0 (J : wJn) (r : Nat) (f : Nat → Int) : ov J r f 0 = J := by
  funext a b
  simp [ov]
theorem ov_up (J : wJn) (r : Nat) (f : Nat → Int) (j : Nat) : up2 (ov J r f j) r j (f j) = ov J r f (j + 1) := by
  funext a b
  simp only [up2, ov]
  by_cases h1 : a = r
  · by_cases h2 : b = j
    · simp [h1, h2]
    · by_cases h3 : b < j
      · simp [h1, h2, h3, show b < j + 1 by omega]
      · simp [h1, h2, h3, show ¬ b < j + 1 by omega]
  · simp [h1]
theorem ov_row {J : wJn} {r : Nat} {f : Nat → Int} {j a : Nat} (h : a ≠ r) : ov J r f j a = J a := by
  funext b
  simp [ov, h]
theorem ov_in {J : wJn} {r : Nat} {f : Nat → Int} {j b : Nat} (h : b < j) : ov J r f j r b = f b := by simp [ov, h]
theorem ov_out {J : wJn} {r : Nat} {f : Nat → Int} {j b : Nat} (h : ¬ b < j) : ov J r f j r b = J r b := by simp [ov, h]
theorem up2_row {α : Type} {f : Nat → Nat → α} {i k a : Nat} {x : α} (h : a ≠ i) : up2 f i k x a = f a := by
  funext b
  simp [up2, h]
def sumN (f : Nat → Int) : Nat → Int
  | 0 => 0
  | n + 1 => sumN f n + f n
theorem sumN_0 {f : Nat → Int} : ∀ n, (∀ k, k < n → f k = 0) → sumN f n = 0
  | 0, _ => rfl
  | n + 1, h => by simp only [sumN]; rw [sumN_0 n (fun k hk => h k (by omega)), h n (by omega)]; rfl
theorem sumN_cong {f g : Nat → Int} : ∀ n, (∀ k, k < n → f k = g k) → sumN f n = sumN g n
  | 0, _ => rfl
  | n + 1, h => by simp only [sumN]; rw [sumN_cong n (fun k hk => h k (by omega)), h n (by omega)]
def tog (J : wJn) (a b : Nat) : Int := max 0 (min (J 13 a + J 17 a) (J 13 b + J 17 b) - J 13 b)
def qvC (J : wJn) (a b : Nat) : Int := if canQ J a b = true then tog J a b else 0
def qinC (J : wJn) (a j : Nat) : Int := sumN (fun s => if a < s then qvC J a s else 0) j
def qouC (J : wJn) (c j : Nat) : Int := sumN (fun a => qinC J a c) j
/-- the lengths written -/
def lnJ (J : wJn) (c : Nat) : wJn := ov J 17 (sndC J c) c
theorem Mus.ov {J : wJn} {c r j : Nat} {f : Nat → Int} (h : Mus J c) (h1 : r ≠ 12) (h2 : r ≠ 13) (h3 : r ≠ 14) : Mus (ov J r f j) c := by
  unfold Mus
  rw [ov_row (a := 12) (Ne.symm h1), ov_row (a := 13) (Ne.symm h2), ov_row (a := 14) (Ne.symm h3)]
  exact h
theorem Tai.ov {J : wJn} {r j : Nat} {f : Nat → Int} (h : Tai J) (h1 : r ≠ 16) : Tai (ov J r f j) := by
  unfold Tai
  rw [ov_row (a := 16) (Ne.symm h1)]
  exact h
theorem sndC_ov {J : wJn} {c j : Nat} {f : Nat → Int} {k : Nat} : sndC (ov J 17 f j) c k = sndC J c k := by
  unfold sndC
  rw [ov_row (a := 13) (by decide), ov_row (a := 14) (by decide), ov_row (a := 16) (by decide)]
section QUAR
variable {n : Nat} {K : wKd} {J : wJn} {L : wLn} {R : wRf}
theorem s_X8_quarrelTicks (hy : Ly K R) {c : Nat} (hm : Mus J c) (ht : Tai J) : S_X8_quarrelTicks [.ref 15, .ref 12] n K (zw J) L R (Det (some (.int (iI (qouC (lnJ J c) c c)))) n K (zw (lnJ J c)) L R) := by
  have hc := hm.1
  have hc2 := hm.2.1
  have hm2 : Mus (lnJ J c) c := hm.ov (by decide) (by decide) (by decide)
  refine Sp_intro [some (.ref 15), some (.ref 12), none, none, none] rfl rfl (Nat.le_of_ble_eq_true rfl) rfl ?_
  intro Γ C
  replace C : C_X8_quarrelTicks Γ := C
  generalize hpost : (Det (some (.int (iI (qouC (lnJ J c) c c)))) n K (zw (lnJ J c)) L R) = post
  -- the inner sum
  have key2 : ∀ (d a j : Nat), a < c → a < j → j + d = c → (wp Γ 0 0 (QQ Γ post) 32 [some (.ref 15), some (.ref 12), some (.int (iI (qouC (lnJ J c) c (a + 1)))), some (.int (iI ((a + 1 : Nat) : Int))), none] [] n K (zw (lnJ J c)) L R) → wp Γ 0 0 (QQ Γ post) 45 [some (.ref 15), some (.ref 12), some (.int (iI (qouC (lnJ J c) c a + qinC (lnJ J c) a j))), some (.int (iI a)), some (.int (iI j))] [] n K (zw (lnJ J c)) L R := by
    intro d
    induction d with
    | zero =>
      intro a j ha hj hd hk
      have hc1 := hm2.1
      refine w_iload (pc2 := 47) C dX8_quarrelTicks_45 rfl rfl ?_
      refine w_aload_n (pc2 := 48) C dX8_quarrelTicks_47 rfl rfl ?_
      refine z_getI (pc2 := 51) C dX8_quarrelTicks_48 fl_X8_27 (by first | exact hy.k _ | assumption) rfl ?_
      -- at 51: .if_icmp .ge 31
      refine z_icmp_ge (pc2 := 54) (tgt := 82) C dX8_quarrelTicks_51 (by decide) rfl (by omega) (by omega) (fun h1 => ?_) (fun h1 => ?_)
      · skip
        refine w_iinc (pc2 := 85) C dX8_quarrelTicks_82 rfl (iI_add _ _) rfl (by decide) rfl rfl ?_
        try dsimp only [List.set]
        refine w_goto (tgt := 32) C dX8_quarrelTicks_85 (by decide) ?_
        -- at 32: .iload_n 3
        refine w_less (lo2 := [some (.ref 15), some (.ref 12), some (.int (iI (qouC (lnJ J c) c (a + 1)))), some (.int (iI ((a + 1 : Nat) : Int))), none]) ?_ hk
        intro i v hv
        rw [show j = c by omega]
        match i, hv with
        | 0, hv => exact hv
        | 1, hv => exact hv
        | 2, hv => exact hv
        | 3, hv => exact hv
        | 4, hv => cases hv
        | i + 5, hv => simp at hv
      · exact absurd hd (by omega)
    | succ d ih =>
      intro a j ha hj hd hk
      have hc1 := hm2.1
      refine w_iload (pc2 := 47) C dX8_quarrelTicks_45 rfl rfl ?_
      refine w_aload_n (pc2 := 48) C dX8_quarrelTicks_47 rfl rfl ?_
      refine z_getI (pc2 := 51) C dX8_quarrelTicks_48 fl_X8_27 (by first | exact hy.k _ | assumption) rfl ?_
      -- at 51: .if_icmp .ge 31
      refine z_icmp_ge (pc2 := 54) (tgt := 82) C dX8_quarrelTicks_51 (by decide) rfl (by omega) (by omega) (fun h1 => ?_) (fun h1 => ?_)
      · exact absurd hd (by omega)
      · skip
        refine w_aload_n (pc2 := 55) C dX8_quarrelTicks_54 rfl rfl ?_
        refine w_aload_n (pc2 := 56) C dX8_quarrelTicks_55 rfl rfl ?_
        refine w_iload_n (pc2 := 57) C dX8_quarrelTicks_56 rfl rfl ?_
        refine w_iload (pc2 := 59) C dX8_quarrelTicks_57 rfl rfl ?_
        -- at 59: .invokevirtual 43
        refine w_cVi (pc2 := 62)  C dX8_quarrelTicks_59 mb_X8_43 mv_X8_canQuarrel (s_X8_canQuarrel hy hm2 ha (show j < c by omega)) (by first | exact hy.k _ | assumption) rfl (by decide) rfl rfl (Nat.le_of_ble_eq_true rfl) ⟨by decide, by decide⟩ ⟨rfl, rfl⟩ ⟨by decide, by decide⟩ rfl ?_
        -- at 62: .ifCond .eq 14
        refine z_if_eq (pc2 := 65) (tgt := 76) C dX8_quarrelTicks_62 (by decide) rfl (by split <;> omega) (fun h2 => ?_) (fun h2 => ?_)
        · have h3 : ¬ canQ (lnJ J c) a j = true := fun q => by rw [if_pos q] at h2; exact absurd h2 (by decide)
          refine w_iinc (pc2 := 79) C dX8_quarrelTicks_76 rfl (iI_add _ _) rfl (by decide) rfl rfl ?_
          try dsimp only [List.set]
          refine w_goto (tgt := 45) C dX8_quarrelTicks_79 (by decide) ?_
          -- at 45: .iload 4
          have e : qinC (lnJ J c) a (j + 1) = qinC (lnJ J c) a j := by simp [qinC, sumN, qvC, h3]
          have := ih a (j + 1) ha (by omega) (by omega) hk
          rw [e] at this
          exact this
        · have h3 : canQ (lnJ J c) a j = true := by
            rcases Decidable.em (canQ (lnJ J c) a j = true) with q | q
            · exact q
            · rw [if_neg q] at h2; exact absurd rfl h2
          refine w_iload_n (pc2 := 66) C dX8_quarrelTicks_65 rfl rfl ?_
          refine w_aload_n (pc2 := 67) C dX8_quarrelTicks_66 rfl rfl ?_
          refine w_aload_n (pc2 := 68) C dX8_quarrelTicks_67 rfl rfl ?_
          refine w_iload_n (pc2 := 69) C dX8_quarrelTicks_68 rfl rfl ?_
          refine w_iload (pc2 := 71) C dX8_quarrelTicks_69 rfl rfl ?_
          -- at 71: .invokevirtual 47
          refine w_cVi (pc2 := 74)  C dX8_quarrelTicks_71 mb_X8_47 mv_X8_ticksTogether (s_X8_ticksTogether hy hm2 ha (show j < c by omega) (by rw [show lnJ J c 17 a = sndC J c a from ov_in ha]; exact sndC_bd hm ht ha) (by rw [show lnJ J c 17 j = sndC J c j from ov_in (by omega)]; exact sndC_bd hm ht (by omega))) (by first | exact hy.k _ | assumption) rfl (by decide) rfl rfl (Nat.le_of_ble_eq_true rfl) ⟨by decide, by decide⟩ ⟨rfl, rfl⟩ ⟨by decide, by decide⟩ rfl ?_
          refine z_iadd (pc2 := 75) C dX8_quarrelTicks_74 rfl ?_
          refine w_istore_n (pc2 := 76) C dX8_quarrelTicks_75 rfl (by decide) rfl rfl ?_
          try dsimp only [List.set]
          refine w_iinc (pc2 := 79) C dX8_quarrelTicks_76 rfl (iI_add _ _) rfl (by decide) rfl rfl ?_
          try dsimp only [List.set]
          refine w_goto (tgt := 45) C dX8_quarrelTicks_79 (by decide) ?_
          -- at 45: .iload 4
          have e : qinC (lnJ J c) a (j + 1) = qinC (lnJ J c) a j + tog (lnJ J c) a j := by simp [qinC, sumN, qvC, h3, hj]
          have := ih a (j + 1) ha (by omega) (by omega) hk
          rw [e, ← Int.add_assoc] at this
          exact this
  -- the outer sum
  have key1 : ∀ (d a : Nat), a + d = c → wp Γ 0 0 (QQ Γ post) 32 [some (.ref 15), some (.ref 12), some (.int (iI (qouC (lnJ J c) c a))), some (.int (iI a)), none] [] n K (zw (lnJ J c)) L R := by
    intro d
    induction d with
    | zero =>
      intro a ha
      have hc1 := hm2.1
      refine w_iload_n (pc2 := 33) C dX8_quarrelTicks_32 rfl rfl ?_
      refine w_aload_n (pc2 := 34) C dX8_quarrelTicks_33 rfl rfl ?_
      refine z_getI (pc2 := 37) C dX8_quarrelTicks_34 fl_X8_27 (by first | exact hy.k _ | assumption) rfl ?_
      -- at 37: .if_icmp .ge 51
      refine z_icmp_ge (pc2 := 40) (tgt := 88) C dX8_quarrelTicks_37 (by decide) rfl (by omega) (by omega) (fun h1 => ?_) (fun h1 => ?_)
      · skip
        refine w_iload_n (pc2 := 89) C dX8_quarrelTicks_88 rfl rfl ?_
        -- at 89: .ireturn
        exact w_iret C dX8_quarrelTicks_89 (by decide) (by decide) (by rw [← hpost]; exact DetI (by rw [show a = c by omega]) rfl)
      · exact absurd ha (by omega)
    | succ d ih =>
      intro a ha
      have hc1 := hm2.1
      refine w_iload_n (pc2 := 33) C dX8_quarrelTicks_32 rfl rfl ?_
      refine w_aload_n (pc2 := 34) C dX8_quarrelTicks_33 rfl rfl ?_
      refine z_getI (pc2 := 37) C dX8_quarrelTicks_34 fl_X8_27 (by first | exact hy.k _ | assumption) rfl ?_
      -- at 37: .if_icmp .ge 51
      refine z_icmp_ge (pc2 := 40) (tgt := 88) C dX8_quarrelTicks_37 (by decide) rfl (by omega) (by omega) (fun h1 => ?_) (fun h1 => ?_)
      · exact absurd ha (by omega)
      · skip
        refine w_iload_n (pc2 := 41) C dX8_quarrelTicks_40 rfl rfl ?_
        refine w_iconst (pc2 := 42) (v := iI 1) C dX8_quarrelTicks_41 (by decide) rfl ?_
        refine z_iadd (pc2 := 43) C dX8_quarrelTicks_42 rfl ?_
        refine w_istore (pc2 := 45) C dX8_quarrelTicks_43 rfl (by decide) rfl rfl ?_
        try dsimp only [List.set]
        -- at 45: .iload 4
        have h9 := key2 (c - (a + 1)) a (a + 1) (by omega) (by omega) (by omega) (ih (a + 1) (by omega))
        have e : qinC (lnJ J c) a (a + 1) = 0 := sumN_0 _ (fun k hk => if_neg (by omega))
        rw [e, Int.add_zero] at h9
        exact h9
  -- the lengths
  have key0 : ∀ (d j : Nat), j + d = c → wp Γ 0 0 (QQ Γ post) 2 [some (.ref 15), some (.ref 12), some (.int (iI j)), none, none] [] n K (zw (ov J 17 (sndC J c) j)) L R := by
    intro d
    induction d with
    | zero =>
      intro j hj
      have hm1 : Mus (ov J 17 (sndC J c) j) c := hm.ov (by decide) (by decide) (by decide)
      have hc1 := hm1.1
      refine w_iload_n (pc2 := 3) C dX8_quarrelTicks_2 rfl rfl ?_
      refine w_aload_n (pc2 := 4) C dX8_quarrelTicks_3 rfl rfl ?_
      refine z_getI (pc2 := 7) C dX8_quarrelTicks_4 fl_X8_27 (by first | exact hy.k _ | assumption) rfl ?_
      -- at 7: .if_icmp .ge 21
      refine z_icmp_ge (pc2 := 10) (tgt := 28) C dX8_quarrelTicks_7 (by decide) rfl (by omega) (by omega) (fun h1 => ?_) (fun h1 => ?_)
      · skip
        refine w_iconst (pc2 := 29) (v := iI 0) C dX8_quarrelTicks_28 (by decide) rfl ?_
        refine w_istore_n (pc2 := 30) C dX8_quarrelTicks_29 rfl (by decide) rfl rfl ?_
        try dsimp only [List.set]
        refine w_iconst (pc2 := 31) (v := iI 0) C dX8_quarrelTicks_30 (by decide) rfl ?_
        refine w_istore_n (pc2 := 32) C dX8_quarrelTicks_31 rfl (by decide) rfl rfl ?_
        try dsimp only [List.set]
        -- at 32: .iload_n 3
        have e : ov J 17 (sndC J c) j = lnJ J c := by rw [show j = c by omega]; rfl
        rw [e]
        exact key1 c 0 (by omega)
      · exact absurd hj (by omega)
    | succ d ih =>
      intro j hj
      have hm1 : Mus (ov J 17 (sndC J c) j) c := hm.ov (by decide) (by decide) (by decide)
      have ht1 : Tai (ov J 17 (sndC J c) j) := ht.ov (by decide)
      have hc1 := hm1.1
      refine w_iload_n (pc2 := 3) C dX8_quarrelTicks_2 rfl rfl ?_
      refine w_aload_n (pc2 := 4) C dX8_quarrelTicks_3 rfl rfl ?_
      refine z_getI (pc2 := 7) C dX8_quarrelTicks_4 fl_X8_27 (by first | exact hy.k _ | assumption) rfl ?_
      -- at 7: .if_icmp .ge 21
      refine z_icmp_ge (pc2 := 10) (tgt := 28) C dX8_quarrelTicks_7 (by decide) rfl (by omega) (by omega) (fun h1 => ?_) (fun h1 => ?_)
      · exact absurd hj (by omega)
      · skip
        refine w_aload_n (pc2 := 11) C dX8_quarrelTicks_10 rfl rfl ?_
        refine w_getR (pc2 := 14) C dX8_quarrelTicks_11 fl_X8_19 (by first | exact hy.k _ | assumption) (by first | exact hy.r _ _ | assumption) rfl ?_
        refine w_iload_n (pc2 := 15) C dX8_quarrelTicks_14 rfl rfl ?_
        refine w_aload_n (pc2 := 16) C dX8_quarrelTicks_15 rfl rfl ?_
        refine w_aload_n (pc2 := 17) C dX8_quarrelTicks_16 rfl rfl ?_
        refine w_iload_n (pc2 := 18) C dX8_quarrelTicks_17 rfl rfl ?_
        -- at 18: .invokevirtual 39
        refine w_cVi (pc2 := 21)  C dX8_quarrelTicks_18 mb_X8_39 mv_X8_soundLength (s_X8_soundLength hy hm1 ht1 (k := j) (by omega)) (by first | exact hy.k _ | assumption) rfl (by decide) rfl rfl (Nat.le_of_ble_eq_true rfl) ⟨by decide, by decide⟩ ⟨rfl, rfl⟩ ⟨by decide, by decide⟩ rfl ?_
        rw [sndC_ov]
        refine z_iast (pc2 := 22) (j := j) C dX8_quarrelTicks_21 (by first | exact hy.k _ | assumption) (by omega) (by omega) (by decide) rfl ?_
        rw [ov_up]
        refine w_iinc (pc2 := 25) C dX8_quarrelTicks_22 rfl (iI_add _ _) rfl (by decide) rfl rfl ?_
        try dsimp only [List.set]
        refine w_goto (tgt := 2) C dX8_quarrelTicks_25 (by decide) ?_
        -- at 2: .iload_n 2
        exact ih (j + 1) (by omega)
  refine w_iconst (pc2 := 1) (v := iI 0) C dX8_quarrelTicks_0 (by decide) rfl ?_
  refine w_istore_n (pc2 := 2) C dX8_quarrelTicks_1 rfl (by decide) rfl rfl ?_
  try dsimp only [List.set]
  -- at 2: .iload_n 2
  have := key0 c 0 (by omega)
  rw [ov_0] at this
  exact this
theorem s_X10_quarrels (hy : Ly K R) {c : Nat} (hm : Mus J c) (ht : Tai J) : S_X10_quarrels [.ref 0] n K (zw J) L R (Det (some (.int (iI (qouC (lnJ J c) c c)))) n K (zw (lnJ J c)) L R) := by
  refine Sp_intro [some (.ref 0)] rfl rfl (Nat.le_of_ble_eq_true rfl) rfl ?_
  intro Γ C
  replace C : C_X10_quarrels Γ := C
  refine w_aload_n (pc2 := 1) C dX10_quarrels_0 rfl rfl ?_
  refine w_getR (pc2 := 4) C dX10_quarrels_1 fl_X10_28 (by first | exact hy.k _ | assumption) (by first | exact hy.r _ _ | assumption) rfl ?_
  refine w_getR (pc2 := 7) C dX10_quarrels_4 fl_X10_142 (by first | exact hy.k _ | assumption) (by first | exact hy.r _ _ | assumption) rfl ?_
  refine w_aload_n (pc2 := 8) C dX10_quarrels_7 rfl rfl ?_
  refine w_getR (pc2 := 11) C dX10_quarrels_8 fl_X10_28 (by first | exact hy.k _ | assumption) (by first | exact hy.r _ _ | assumption) rfl ?_
  refine w_getR (pc2 := 14) C dX10_quarrels_11 fl_X10_38 (by first | exact hy.k _ | assumption) (by first | exact hy.r _ _ | assumption) rfl ?_
  -- at 14: .invokevirtual 154
  refine w_cVi (pc2 := 17)  C dX10_quarrels_14 mb_X10_154 mv_X8_quarrelTicks (s_X8_quarrelTicks hy hm ht) (by first | exact hy.k _ | assumption) rfl (by decide) rfl rfl (Nat.le_of_ble_eq_true rfl) ⟨by decide, by decide⟩ ⟨rfl, rfl⟩ ⟨by decide, by decide⟩ rfl ?_
  -- at 17: .ireturn
  exact w_iret C dX10_quarrels_17 (by decide) (by decide) (⟨rfl, rfl, rfl, rfl, rfl, rfl⟩)
end QUAR
end
section
/-! ===== the drum, by the class ===== -/
def pst (J : wJn) (t : Int) (k : Nat) : Int := if J 13 k + t < J 18 3 then J 13 k + t else J 13 k + t - J 18 3
/-- pins told by the SCORE, turned by t -/
def pdJ (J : wJn) (t : Int) (j : Nat) : wJn := ov (ov J 19 (pst J t) j) 20 (J 14) j
theorem ov_comm {J : wJn} {r i k j : Nat} {f : Nat → Int} {x : Int} (h : i ≠ r) : up2 (ov J r f j) i k x = ov (up2 J i k x) r f j := by
  funext a b
  simp only [up2, ov]
  by_cases h1 : a = i
  · by_cases h2 : b = k
    · simp [h1, h2, h]
    · simp [h1, h2, h]
  · simp [h1]
theorem pdJ_up {J : wJn} {t : Int} {j : Nat} : up2 (up2 (pdJ J t j) 19 j (pst J t j)) 20 j (J 14 j) = pdJ J t (j + 1) := by
  unfold pdJ
  rw [ov_comm (by decide), ov_up, ov_up]
theorem pdJ_row {J : wJn} {t : Int} {j a : Nat} (h1 : a ≠ 19) (h2 : a ≠ 20) : pdJ J t j a = J a := by
  unfold pdJ
  rw [ov_row h2, ov_row h1]
theorem pdJ_0 {J : wJn} {t : Int} : pdJ J t 0 = J := by
  unfold pdJ
  rw [ov_0, ov_0]
/-- where a pin p asks a STRIKE k to be turned -/
def shf (J : wJn) (p k : Nat) : Int := if 0 ≤ J 19 p - J 13 k then J 19 p - J 13 k else J 19 p - J 13 k + J 18 3
def kAdd (J : wJn) (p k : Nat) : wJn := if J 14 k = J 20 p then up2 J 33 (shf J p k).toNat (J 33 (shf J p k).toNat + 1) else J
def kIn (J : wJn) (p : Nat) : Nat → wJn
  | 0 => J
  | k + 1 => kAdd (kIn J p k) p k
def kOut (J : wJn) (c : Nat) : Nat → wJn
  | 0 => J
  | p + 1 => kIn (kOut J c p) p c
theorem kAdd_row {J : wJn} {p k a : Nat} (h : a ≠ 33) : kAdd J p k a = J a := by
  unfold kAdd
  split
  · exact up2_row h
  · rfl
theorem kIn_row {J : wJn} {p a : Nat} (h : a ≠ 33) : ∀ k, kIn J p k a = J a
  | 0 => rfl
  | k + 1 => by simp only [kIn]; rw [kAdd_row h, kIn_row h k]
theorem kOut_row {J : wJn} {c a : Nat} (h : a ≠ 33) : ∀ p, kOut J c p a = J a
  | 0 => rfl
  | p + 1 => by simp only [kOut]; rw [kIn_row h, kOut_row h p]
def bestF (f : Nat → Int) : Nat → Nat
  | 0 => 0
  | j + 1 => if f (bestF f j) < f j then j else bestF f j
theorem bestF_lt (f : Nat → Int) : ∀ j, 0 < j → bestF f j < j
  | 0, h => absurd h (by omega)
  | 1, _ => by simp [bestF]
  | j + 2, _ => by
    have := bestF_lt f (j + 1) (by omega)
    rw [bestF]
    split <;> omega
/-- THE DRUM's pins and steps are as they should be -/
def Pin (J : wJn) (m : Nat) (s : Nat) : Prop := J 18 2 = m ∧ m ≤ 100 ∧ J 18 3 = s ∧ 1 ≤ s ∧ s ≤ 2063 ∧ ∀ p, p < m → 0 ≤ J 19 p ∧ J 19 p < s ∧ 0 ≤ J 20 p ∧ J 20 p < 24
def zeroK (J : wJn) (s : Nat) : wJn := ov J 33 (fun _ => 0) s
def findJ (J : wJn) (c m s : Nat) : wJn :=
  let J1 := kOut (zeroK J s) c m
  let b := bestF (J1 33) s
  up2 (up2 J1 32 0 b) 32 1 (J1 33 b)
section DRUM
variable {n : Nat} {K : wKd} {J : wJn} {L : wLn} {R : wRf}
theorem s_X1_fits (hy : Ly K R) {c : Nat} (hm : Mus J c) (hs : R32 (J 18 3)) : S_X1_fits [.ref 18, .ref 12] n K (zw J) L R (Det (some (.int (iI (if c = 0 ∨ J 13 (c - 1) < J 18 3 then 1 else 0)))) n K (zw J) L R) := by
  have hc := hm.1
  have hc2 := hm.2.1
  refine Sp_intro [some (.ref 18), some (.ref 12)] rfl rfl (Nat.le_of_ble_eq_true rfl) rfl ?_
  intro Γ C
  replace C : C_X1_fits Γ := C
  refine w_aload_n (pc2 := 1) C dX1_fits_0 rfl rfl ?_
  refine z_getI (pc2 := 4) C dX1_fits_1 fl_X1_28 (by first | exact hy.k _ | assumption) rfl ?_
  -- at 4: .ifCond .eq 21
  refine z_if_eq (pc2 := 7) (tgt := 25) C dX1_fits_4 (by decide) rfl (by omega) (fun h1 => ?_) (fun h1 => ?_)
  · skip
    refine w_iconst (pc2 := 26) (v := iI 1) C dX1_fits_25 (by decide) rfl ?_
    refine w_goto (tgt := 30) C dX1_fits_26 (by decide) ?_
    -- at 30: .ireturn
    exact w_zret C dX1_fits_30 (Or.inr rfl) (by decide) (by decide) (DetI (by rw [if_pos (by omega)]) rfl)
  · have h2 := hm.2.2 (c - 1) (by omega)
    refine w_aload_n (pc2 := 8) C dX1_fits_7 rfl rfl ?_
    refine w_getR (pc2 := 11) C dX1_fits_8 fl_X1_31 (by first | exact hy.k _ | assumption) (by first | exact hy.r _ _ | assumption) rfl ?_
    refine w_aload_n (pc2 := 12) C dX1_fits_11 rfl rfl ?_
    refine z_getI (pc2 := 15) C dX1_fits_12 fl_X1_28 (by first | exact hy.k _ | assumption) rfl ?_
    refine w_iconst (pc2 := 16) (v := iI 1) C dX1_fits_15 (by decide) rfl ?_
    refine z_isub (pc2 := 17) C dX1_fits_16 rfl ?_
    -- at 17: .iaload
    refine z_iald (pc2 := 18) (j := c - 1) C dX1_fits_17 (by first | exact hy.k _ | assumption) (by omega) (by omega) (by decide) rfl ?_
    refine w_aload_n (pc2 := 19) C dX1_fits_18 rfl rfl ?_
    refine z_getI (pc2 := 22) C dX1_fits_19 fl_X1_22 (by first | exact hy.k _ | assumption) rfl ?_
    -- at 22: .if_icmp .ge 7
    refine z_icmp_ge (pc2 := 25) (tgt := 29) C dX1_fits_22 (by decide) rfl (by omega) (by omega) (fun h3 => ?_) (fun h3 => ?_)
    · skip
      refine w_iconst (pc2 := 30) (v := iI 0) C dX1_fits_29 (by decide) rfl ?_
      -- at 30: .ireturn
      exact w_zret C dX1_fits_30 (Or.inl rfl) (by decide) (by decide) (DetI (by rw [if_neg (by omega)]) rfl)
    · skip
      refine w_iconst (pc2 := 26) (v := iI 1) C dX1_fits_25 (by decide) rfl ?_
      refine w_goto (tgt := 30) C dX1_fits_26 (by decide) ?_
      -- at 30: .ireturn
      exact w_zret C dX1_fits_30 (Or.inr rfl) (by decide) (by decide) (DetI (by rw [if_pos (by omega)]) rfl)
theorem s_X1_pinDown (hy : Ly K R) {c : Nat} {t : Int} (hm : Mus J c) (hs : 1 ≤ J 18 3 ∧ J 18 3 ≤ 2063) (ht : 0 ≤ t ∧ t < J 18 3) : S_X1_pinDown [.ref 18, .ref 12, .int (iI t)] n K (zw J) L R (Det none n K (zw (up2 (up2 (pdJ J t c) 18 2 c) 18 4 t)) L R) := by
  have hc := hm.1
  have hc2 := hm.2.1
  refine Sp_intro [some (.ref 18), some (.ref 12), some (.int (iI t)), none, none] rfl rfl (Nat.le_of_ble_eq_true rfl) rfl ?_
  intro Γ C
  replace C : C_X1_pinDown Γ := C
  have key : ∀ (d j : Nat), j + d = c → ∀ w : Option Value, noL [w] = true → wp Γ 0 0 (QQ Γ (Det none n K (zw (up2 (up2 (pdJ J t c) 18 2 c) 18 4 t)) L R)) 2 [some (.ref 18), some (.ref 12), some (.int (iI t)), some (.int (iI j)), none] [] n K (zw (pdJ J t j)) L R := by
    intro d
    induction d with
    | zero =>
      intro j hj w hw
      have e12 : pdJ J t j 12 = J 12 := pdJ_row (by decide) (by decide)
      refine w_iload_n (pc2 := 3) C dX1_pinDown_2 rfl rfl ?_
      refine w_aload_n (pc2 := 4) C dX1_pinDown_3 rfl rfl ?_
      refine z_getI (pc2 := 7) C dX1_pinDown_4 fl_X1_28 (by first | exact hy.k _ | assumption) rfl ?_
      -- at 7: .if_icmp .ge 58
      rw [e12]
      refine z_icmp_ge (pc2 := 10) (tgt := 65) C dX1_pinDown_7 (by decide) rfl (by omega) (by omega) (fun h1 => ?_) (fun h1 => ?_)
      · skip
        refine w_aload_n (pc2 := 66) C dX1_pinDown_65 rfl rfl ?_
        refine w_aload_n (pc2 := 67) C dX1_pinDown_66 rfl rfl ?_
        refine z_getI (pc2 := 70) C dX1_pinDown_67 fl_X1_28 (by first | exact hy.k _ | assumption) rfl ?_
        refine z_putI (pc2 := 73) C dX1_pinDown_70 fl_X1_18 (by first | exact hy.k _ | assumption) (by rfl) (by rfl) rfl ?_
        refine w_aload_n (pc2 := 74) C dX1_pinDown_73 rfl rfl ?_
        refine w_iload_n (pc2 := 75) C dX1_pinDown_74 rfl rfl ?_
        refine z_putI (pc2 := 78) C dX1_pinDown_75 fl_X1_25 (by first | exact hy.k _ | assumption) (by rfl) (by rfl) rfl ?_
        -- at 78: .return_
        rw [show (pdJ J t j) 12 2 = (c : Int) by rw [e12]; exact hc, show j = c by omega]
        exact w_ret C dX1_pinDown_78 (by decide) (by decide) (⟨rfl, rfl, rfl, rfl, rfl, rfl⟩)
      · exact absurd hj (by omega)
    | succ d ih =>
      intro j hj w hw
      have e12 : pdJ J t j 12 = J 12 := pdJ_row (by decide) (by decide)
      have e13 : pdJ J t j 13 = J 13 := pdJ_row (by decide) (by decide)
      have e14 : pdJ J t j 14 = J 14 := pdJ_row (by decide) (by decide)
      have e18 : pdJ J t j 18 = J 18 := pdJ_row (by decide) (by decide)
      have h2 := hm.2.2 j (by omega)
      have fin : wp Γ 0 0 (QQ Γ (Det none n K (zw (up2 (up2 (pdJ J t c) 18 2 c) 18 4 t)) L R)) 46 [some (.ref 18), some (.ref 12), some (.int (iI t)), some (.int (iI j)), some (.int (iI (J 13 j + t)))] [.int (iI (pst J t j)), .int (iI j), .ref 19] n K (zw (pdJ J t j)) L R := by
        refine z_iast (pc2 := 47) (j := j) C dX1_pinDown_46 (by first | exact hy.k _ | assumption) (by omega) (by omega) (by decide) rfl ?_
        refine w_aload_n (pc2 := 48) C dX1_pinDown_47 rfl rfl ?_
        refine w_getR (pc2 := 51) C dX1_pinDown_48 fl_X1_15 (by first | exact hy.k _ | assumption) (by first | exact hy.r _ _ | assumption) rfl ?_
        refine w_iload_n (pc2 := 52) C dX1_pinDown_51 rfl rfl ?_
        refine w_aload_n (pc2 := 53) C dX1_pinDown_52 rfl rfl ?_
        refine w_getR (pc2 := 56) C dX1_pinDown_53 fl_X1_34 (by first | exact hy.k _ | assumption) (by first | exact hy.r _ _ | assumption) rfl ?_
        refine w_iload_n (pc2 := 57) C dX1_pinDown_56 rfl rfl ?_
        -- at 57: .iaload
        refine z_iald (pc2 := 58) (j := j) C dX1_pinDown_57 (by first | exact hy.k _ | assumption) (by omega) (by omega) (by decide) rfl ?_
        rw [show up2 (pdJ J t j) 19 j (pst J t j) 14 j = J 14 j by rw [up2_row (by decide), e14]]
        refine z_iast (pc2 := 59) (j := j) C dX1_pinDown_58 (by first | exact hy.k _ | assumption) (by omega) (by omega) (by decide) rfl ?_
        rw [pdJ_up]
        refine w_iinc (pc2 := 62) C dX1_pinDown_59 rfl (iI_add _ _) rfl (by decide) rfl rfl ?_
        try dsimp only [List.set]
        refine w_goto (tgt := 2) C dX1_pinDown_62 (by decide) ?_
        -- at 2: .iload_n 3
        refine w_less (lo2 := [some (.ref 18), some (.ref 12), some (.int (iI t)), some (.int (iI ((j + 1 : Nat) : Int))), none]) ?_ (ih (j + 1) (by omega) none rfl)
        intro i v hv
        match i, hv with
        | 0, hv => exact hv
        | 1, hv => exact hv
        | 2, hv => exact hv
        | 3, hv => exact hv
        | 4, hv => cases hv
        | i + 5, hv => simp at hv
      refine w_iload_n (pc2 := 3) C dX1_pinDown_2 rfl rfl ?_
      refine w_aload_n (pc2 := 4) C dX1_pinDown_3 rfl rfl ?_
      refine z_getI (pc2 := 7) C dX1_pinDown_4 fl_X1_28 (by first | exact hy.k _ | assumption) rfl ?_
      -- at 7: .if_icmp .ge 58
      rw [e12]
      refine z_icmp_ge (pc2 := 10) (tgt := 65) C dX1_pinDown_7 (by decide) rfl (by omega) (by omega) (fun h1 => ?_) (fun h1 => ?_)
      · exact absurd hj (by omega)
      · skip
        refine w_aload_n (pc2 := 11) C dX1_pinDown_10 rfl rfl ?_
        refine w_getR (pc2 := 14) C dX1_pinDown_11 fl_X1_31 (by first | exact hy.k _ | assumption) (by first | exact hy.r _ _ | assumption) rfl ?_
        refine w_iload_n (pc2 := 15) C dX1_pinDown_14 rfl rfl ?_
        -- at 15: .iaload
        refine z_iald (pc2 := 16) (j := j) C dX1_pinDown_15 (by first | exact hy.k _ | assumption) (by omega) (by omega) (by decide) rfl ?_
        rw [e13]
        refine w_iload_n (pc2 := 17) C dX1_pinDown_16 rfl rfl ?_
        refine z_iadd (pc2 := 18) C dX1_pinDown_17 rfl ?_
        refine w_istore (pc2 := 20) C dX1_pinDown_18 rfl (by decide) rfl rfl ?_
        try dsimp only [List.set]
        refine w_aload_n (pc2 := 21) C dX1_pinDown_20 rfl rfl ?_
        refine w_getR (pc2 := 24) C dX1_pinDown_21 fl_X1_9 (by first | exact hy.k _ | assumption) (by first | exact hy.r _ _ | assumption) rfl ?_
        refine w_iload_n (pc2 := 25) C dX1_pinDown_24 rfl rfl ?_
        refine w_iload (pc2 := 27) C dX1_pinDown_25 rfl rfl ?_
        refine w_aload_n (pc2 := 28) C dX1_pinDown_27 rfl rfl ?_
        refine z_getI (pc2 := 31) C dX1_pinDown_28 fl_X1_22 (by first | exact hy.k _ | assumption) rfl ?_
        -- at 31: .if_icmp .ge 8
        rw [e18]
        refine z_icmp_ge (pc2 := 34) (tgt := 39) C dX1_pinDown_31 (by decide) rfl (by omega) (by omega) (fun h3 => ?_) (fun h3 => ?_)
        · skip
          refine w_iload (pc2 := 41) C dX1_pinDown_39 rfl rfl ?_
          refine w_aload_n (pc2 := 42) C dX1_pinDown_41 rfl rfl ?_
          refine z_getI (pc2 := 45) C dX1_pinDown_42 fl_X1_22 (by first | exact hy.k _ | assumption) rfl ?_
          refine z_isub (pc2 := 46) C dX1_pinDown_45 rfl ?_
          -- at 46: .iastore
          rw [e18]
          have e : pst J t j = J 13 j + t - J 18 3 := if_neg (by omega)
          rw [e] at fin
          exact fin
        · skip
          refine w_iload (pc2 := 36) C dX1_pinDown_34 rfl rfl ?_
          refine w_goto (tgt := 46) C dX1_pinDown_36 (by decide) ?_
          -- at 46: .iastore
          have e : pst J t j = J 13 j + t := if_pos (by omega)
          rw [e] at fin
          exact fin
  refine w_iconst (pc2 := 1) (v := iI 0) C dX1_pinDown_0 (by decide) rfl ?_
  refine w_istore_n (pc2 := 2) C dX1_pinDown_1 rfl (by decide) rfl rfl ?_
  try dsimp only [List.set]
  -- at 2: .iload_n 3
  have := key c 0 (by omega) none rfl
  rw [pdJ_0] at this
  exact this
end DRUM
end
section
theorem Mus.rows {J J2 : wJn} {c : Nat} (h : Mus J c) (h1 : J2 12 = J 12) (h2 : J2 13 = J 13) (h3 : J2 14 = J 14) : Mus J2 c := by
  unfold Mus
  rw [h1, h2, h3]
  exact h
/-- fewer locals -/
def lessB : List (Option Value) → List (Option Value) → Prop
  | [], _ => True
  | none :: l, [] => lessB l []
  | none :: l, _ :: m => lessB l m
  | some _ :: _, [] => False
  | some v :: l, some w :: m => v = w ∧ lessB l m
  | some _ :: _, none :: _ => False
theorem lessB_at : ∀ (l m : List (Option Value)), lessB l m → ∀ (j : Nat) (v : Value), l[j]? = some (some v) → m[j]? = some (some v)
  | [], _, _, j, v, h => by simp at h
  | none :: l, [], hb, 0, v, h => by simp at h
  | none :: l, [], hb, j + 1, v, h => by
    have := lessB_at l [] hb j v (by simpa using h)
    simp at this
  | none :: l, _ :: m, hb, 0, v, h => by simp at h
  | none :: l, _ :: m, hb, j + 1, v, h => by
    have := lessB_at l m hb j v (by simpa using h)
    simpa using this
  | some w :: l, [], hb, j, v, h => hb.elim
  | some w :: l, some u :: m, hb, 0, v, h => by
    obtain ⟨e, -⟩ := hb
    subst e
    simpa using h
  | some w :: l, some u :: m, hb, j + 1, v, h => by
    have := lessB_at l m hb.2 j v (by simpa using h)
    simpa using this
  | some w :: l, none :: m, hb, j, v, h => hb.elim
theorem w_drop {Γ : Gm} {cells slots pc : Nat} {Q : State → Prop} {lo lo2 : List (Option Value)} {st : List Value} {n : Nat} {K : wKd} {I : wIn} {L : wLn} {R : wRf} (k : wp Γ cells slots Q pc lo2 st n K I L R) (h : lessB lo2 lo) : wp Γ cells slots Q pc lo st n K I L R := w_less (lessB_at lo2 lo h) k
section FIND
variable {n : Nat} {K : wKd} {J : wJn} {L : wLn} {R : wRf}
theorem s_X9_find (hy : Ly K R) {c m s : Nat} (hm : Mus J c) (hp : Pin J m s) (hts : ∀ i, i < c → J 13 i < s) : S_X9_find [.ref 32, .ref 18, .ref 12] n K (zw J) L R (Det none n K (zw (findJ J c m s)) L R) := by
  have hc := hm.1
  have hc2 := hm.2.1
  obtain ⟨hp1, hp2, hp3, hp4, hp5, hp6⟩ := hp
  refine Sp_intro [some (.ref 32), some (.ref 18), some (.ref 12), none, none, none] rfl rfl (Nat.le_of_ble_eq_true rfl) rfl ?_
  intro Γ C
  replace C : C_X9_find Γ := C
  generalize hpost : (Det none n K (zw (findJ J c m s)) L R) = post
  generalize hJ1 : kOut (zeroK J s) c m = J1
  have r1 : ∀ a, a ≠ 33 → J1 a = J a := fun a ha => by rw [← hJ1, kOut_row ha]; exact ov_row ha
  have b0 : ∀ p, p ≤ m → ∀ q, q < s → 0 ≤ kOut (zeroK J s) c p 33 q ∧ kOut (zeroK J s) c p 33 q ≤ 100 * (p : Int) := by
    intro p
    induction p with
    | zero =>
      intro _ q hq
      have : kOut (zeroK J s) c 0 33 q = 0 := by
        show ov J 33 (fun _ => 0) s 33 q = 0
        rw [ov_in hq]
      omega
    | succ p ih =>
      intro hpm q hq
      have h1 := ih (by omega)
      have h2 : ∀ k, k ≤ c → 0 ≤ kIn (kOut (zeroK J s) c p) p k 33 q ∧ kIn (kOut (zeroK J s) c p) p k 33 q ≤ 100 * (p : Int) + k := by
        intro k
        induction k with
        | zero =>
          intro _
          have := h1 q hq
          simp only [kIn]
          omega
        | succ k ih2 =>
          intro hk
          have h3 := ih2 (by omega)
          simp only [kIn, kAdd]
          split
          · simp only [up2]
            split
            · rename_i h4
              rw [h4.2] at h3
              omega
            · omega
          · omega
      have := h2 c (by omega)
      simp only [kOut]
      omega
  have b1 : ∀ q, q < s → 0 ≤ J1 33 q ∧ J1 33 q ≤ 10000 := fun q hq => by
    have := b0 m (by omega) q hq
    rw [hJ1] at this
    omega
  -- the best one
  have key3 : ∀ (d j : Nat), 1 ≤ j → j + d = s → wp Γ 0 0 (QQ Γ post) 122 [some (.ref 32), some (.ref 18), some (.ref 12), some (.int (iI j)), none, none] [] n K (zw (up2 J1 32 0 (bestF (J1 33) j))) L R := by
    intro d
    induction d with
    | zero =>
      intro j hj1 hj
      have e18 : up2 J1 32 0 (bestF (J1 33) j) 18 = J 18 := by rw [up2_row (by decide), r1 18 (by decide)]
      have e32 : up2 J1 32 0 (bestF (J1 33) j) 32 0 = bestF (J1 33) j := up2_s _ _ _ _
      have e33 : up2 J1 32 0 (bestF (J1 33) j) 33 = J1 33 := up2_row (by decide)
      have hb := bestF_lt (J1 33) j (by omega)
      refine w_iload_n (pc2 := 123) C dX9_find_122 rfl rfl ?_
      refine w_aload_n (pc2 := 124) C dX9_find_123 rfl rfl ?_
      refine z_getI (pc2 := 127) C dX9_find_124 fl_X9_15 (by first | exact hy.k _ | assumption) rfl ?_
      -- at 127: .if_icmp .ge 32
      rw [e18]
      refine z_icmp_ge (pc2 := 130) (tgt := 159) C dX9_find_127 (by decide) rfl (by omega) (by omega) (fun h1 => ?_) (fun h1 => ?_)
      · skip
        refine w_aload_n (pc2 := 160) C dX9_find_159 rfl rfl ?_
        refine w_aload_n (pc2 := 161) C dX9_find_160 rfl rfl ?_
        refine w_getR (pc2 := 164) C dX9_find_161 fl_X9_9 (by first | exact hy.k _ | assumption) (by first | exact hy.r _ _ | assumption) rfl ?_
        refine w_aload_n (pc2 := 165) C dX9_find_164 rfl rfl ?_
        refine z_getI (pc2 := 168) C dX9_find_165 fl_X9_39 (by first | exact hy.k _ | assumption) rfl ?_
        -- at 168: .iaload
        rw [e32]
        refine z_iald (pc2 := 169) (j := bestF (J1 33) j) C dX9_find_168 (by first | exact hy.k _ | assumption) (by omega) (by omega) (by decide) rfl ?_
        rw [e33]
        refine z_putI (pc2 := 172) C dX9_find_169 fl_X9_42 (by first | exact hy.k _ | assumption) (by rfl) (by rfl) rfl ?_
        -- at 172: .return_
        exact w_ret C dX9_find_172 (by decide) (by decide) (by rw [← hpost]; unfold findJ; rw [hJ1]; exact DetI rfl (by rw [show j = s by omega]))
      · exact absurd hj (by omega)
    | succ d ih =>
      intro j hj1 hj
      have e18 : up2 J1 32 0 (bestF (J1 33) j) 18 = J 18 := by rw [up2_row (by decide), r1 18 (by decide)]
      have e32 : up2 J1 32 0 (bestF (J1 33) j) 32 0 = bestF (J1 33) j := up2_s _ _ _ _
      have e33 : up2 J1 32 0 (bestF (J1 33) j) 33 = J1 33 := up2_row (by decide)
      have hb := bestF_lt (J1 33) j (by omega)
      have g1 := b1 j (by omega)
      have g2 := b1 (bestF (J1 33) j) (by omega)
      refine w_iload_n (pc2 := 123) C dX9_find_122 rfl rfl ?_
      refine w_aload_n (pc2 := 124) C dX9_find_123 rfl rfl ?_
      refine z_getI (pc2 := 127) C dX9_find_124 fl_X9_15 (by first | exact hy.k _ | assumption) rfl ?_
      -- at 127: .if_icmp .ge 32
      rw [e18]
      refine z_icmp_ge (pc2 := 130) (tgt := 159) C dX9_find_127 (by decide) rfl (by omega) (by omega) (fun h1 => ?_) (fun h1 => ?_)
      · exact absurd hj (by omega)
      · skip
        refine w_aload_n (pc2 := 131) C dX9_find_130 rfl rfl ?_
        refine w_getR (pc2 := 134) C dX9_find_131 fl_X9_9 (by first | exact hy.k _ | assumption) (by first | exact hy.r _ _ | assumption) rfl ?_
        refine w_iload_n (pc2 := 135) C dX9_find_134 rfl rfl ?_
        -- at 135: .iaload
        refine z_iald (pc2 := 136) (j := j) C dX9_find_135 (by first | exact hy.k _ | assumption) (by omega) (by omega) (by decide) rfl ?_
        rw [e33]
        refine w_aload_n (pc2 := 137) C dX9_find_136 rfl rfl ?_
        refine w_getR (pc2 := 140) C dX9_find_137 fl_X9_9 (by first | exact hy.k _ | assumption) (by first | exact hy.r _ _ | assumption) rfl ?_
        refine w_aload_n (pc2 := 141) C dX9_find_140 rfl rfl ?_
        refine z_getI (pc2 := 144) C dX9_find_141 fl_X9_39 (by first | exact hy.k _ | assumption) rfl ?_
        -- at 144: .iaload
        rw [e32]
        refine z_iald (pc2 := 145) (j := bestF (J1 33) j) C dX9_find_144 (by first | exact hy.k _ | assumption) (by omega) (by omega) (by decide) rfl ?_
        rw [e33]
        refine z_icmp_le (pc2 := 148) (tgt := 153) C dX9_find_145 (by decide) rfl (by omega) (by omega) (fun h2 => ?_) (fun h2 => ?_)
        · skip
          refine w_iinc (pc2 := 156) C dX9_find_153 rfl (iI_add _ _) rfl (by decide) rfl rfl ?_
          try dsimp only [List.set]
          refine w_goto (tgt := 122) C dX9_find_156 (by decide) ?_
          -- at 122: .iload_n 3
          have e : bestF (J1 33) (j + 1) = bestF (J1 33) j := by rw [bestF, if_neg (by omega)]
          have := ih (j + 1) (by omega) (by omega)
          rw [e] at this
          exact this
        · skip
          refine w_aload_n (pc2 := 149) C dX9_find_148 rfl rfl ?_
          refine w_iload_n (pc2 := 150) C dX9_find_149 rfl rfl ?_
          refine z_putI (pc2 := 153) C dX9_find_150 fl_X9_39 (by first | exact hy.k _ | assumption) (by rfl) (by rfl) rfl ?_
          refine w_iinc (pc2 := 156) C dX9_find_153 rfl (iI_add _ _) rfl (by decide) rfl rfl ?_
          try dsimp only [List.set]
          refine w_goto (tgt := 122) C dX9_find_156 (by decide) ?_
          -- at 122: .iload_n 3
          have e : bestF (J1 33) (j + 1) = j := by rw [bestF, if_pos (by omega)]
          have := ih (j + 1) (by omega) (by omega)
          rw [e] at this
          have e2 : up2 (up2 J1 32 0 (bestF (J1 33) j)) 32 0 (j : Int) = up2 J1 32 0 (j : Int) := by
            funext a b
            simp only [up2]
            split <;> rfl
          rw [e2]
          exact this
  -- the counting
  have key2 : ∀ (d p k : Nat), p < m → k + d = c → (wp Γ 0 0 (QQ Γ post) 25 [some (.ref 32), some (.ref 18), some (.ref 12), some (.int (iI ((p + 1 : Nat) : Int))), none, none] [] n K (zw (kOut (zeroK J s) c (p + 1))) L R) → wp Γ 0 0 (QQ Γ post) 36 [some (.ref 32), some (.ref 18), some (.ref 12), some (.int (iI p)), some (.int (iI k)), none] [] n K (zw (kIn (kOut (zeroK J s) c p) p k)) L R := by
    intro d
    induction d with
    | zero =>
      intro p k hpm hk hkk
      have rr : ∀ a, a ≠ 33 → kIn (kOut (zeroK J s) c p) p k a = J a := fun a ha => by rw [kIn_row ha, kOut_row ha]; exact ov_row ha
      refine w_iload (pc2 := 38) C dX9_find_36 rfl rfl ?_
      refine w_aload_n (pc2 := 39) C dX9_find_38 rfl rfl ?_
      refine z_getI (pc2 := 42) C dX9_find_39 fl_X9_24 (by first | exact hy.k _ | assumption) rfl ?_
      -- at 42: .if_icmp .ge 67
      rw [rr 12 (by decide)]
      refine z_icmp_ge (pc2 := 45) (tgt := 109) C dX9_find_42 (by decide) rfl (by omega) (by omega) (fun h1 => ?_) (fun h1 => ?_)
      · skip
        refine w_iinc (pc2 := 112) C dX9_find_109 rfl (iI_add _ _) rfl (by decide) rfl rfl ?_
        try dsimp only [List.set]
        refine w_goto (tgt := 25) C dX9_find_112 (by decide) ?_
        -- at 25: .iload_n 3
        have e : kIn (kOut (zeroK J s) c p) p k = kOut (zeroK J s) c (p + 1) := by rw [show k = c by omega]; rfl
        rw [e]
        exact w_drop hkk ⟨rfl, rfl, rfl, rfl, trivial⟩
      · exact absurd hk (by omega)
    | succ d ih =>
      intro p k hpm hk hkk
      have rr : ∀ a, a ≠ 33 → kIn (kOut (zeroK J s) c p) p k a = J a := fun a ha => by rw [kIn_row ha, kOut_row ha]; exact ov_row ha
      have g1 := hm.2.2 k (by omega)
      have g2 := hp6 p hpm
      have g3 := hts k (by omega)
      have ih2 := ih p (k + 1) hpm (by omega) hkk
      simp only [kIn] at ih2
      generalize hJ2 : kIn (kOut (zeroK J s) c p) p k = J2 at rr ih2
      have es : shf J2 p k = if 0 ≤ J 19 p - J 13 k then J 19 p - J 13 k else J 19 p - J 13 k + J 18 3 := by
        unfold shf
        rw [rr 19 (by decide), rr 13 (by decide), rr 18 (by decide)]
      refine w_iload (pc2 := 38) C dX9_find_36 rfl rfl ?_
      refine w_aload_n (pc2 := 39) C dX9_find_38 rfl rfl ?_
      refine z_getI (pc2 := 42) C dX9_find_39 fl_X9_24 (by first | exact hy.k _ | assumption) rfl ?_
      -- at 42: .if_icmp .ge 67
      rw [rr 12 (by decide)]
      refine z_icmp_ge (pc2 := 45) (tgt := 109) C dX9_find_42 (by decide) rfl (by omega) (by omega) (fun h1 => ?_) (fun h1 => ?_)
      · exact absurd hk (by omega)
      · skip
        refine w_aload_n (pc2 := 46) C dX9_find_45 rfl rfl ?_
        refine w_getR (pc2 := 49) C dX9_find_46 fl_X9_27 (by first | exact hy.k _ | assumption) (by first | exact hy.r _ _ | assumption) rfl ?_
        refine w_iload (pc2 := 51) C dX9_find_49 rfl rfl ?_
        -- at 51: .iaload
        refine z_iald (pc2 := 52) (j := k) C dX9_find_51 (by first | exact hy.k _ | assumption) (by omega) (by omega) (by decide) rfl ?_
        rw [rr 14 (by decide)]
        refine w_aload_n (pc2 := 53) C dX9_find_52 rfl rfl ?_
        refine w_getR (pc2 := 56) C dX9_find_53 fl_X9_30 (by first | exact hy.k _ | assumption) (by first | exact hy.r _ _ | assumption) rfl ?_
        refine w_iload_n (pc2 := 57) C dX9_find_56 rfl rfl ?_
        -- at 57: .iaload
        refine z_iald (pc2 := 58) (j := p) C dX9_find_57 (by first | exact hy.k _ | assumption) (by omega) (by omega) (by decide) rfl ?_
        rw [rr 20 (by decide)]
        refine z_icmp_ne (pc2 := 61) (tgt := 103) C dX9_find_58 (by decide) rfl (by omega) (by omega) (fun h2 => ?_) (fun h2 => ?_)
        · have e : kAdd J2 p k = J2 := by unfold kAdd; rw [rr 14 (by decide), rr 20 (by decide), if_neg h2]
          rw [e] at ih2
          refine w_iinc (pc2 := 106) C dX9_find_103 rfl (iI_add _ _) rfl (by decide) rfl rfl ?_
          try dsimp only [List.set]
          refine w_goto (tgt := 36) C dX9_find_106 (by decide) ?_
          -- at 36: .iload 4
          exact ih2
        · have e : kAdd J2 p k = up2 J2 33 (shf J2 p k).toNat (J2 33 (shf J2 p k).toNat + 1) := by unfold kAdd; rw [rr 14 (by decide), rr 20 (by decide), if_pos h2]
          rw [e] at ih2
          refine w_aload_n (pc2 := 62) C dX9_find_61 rfl rfl ?_
          refine w_getR (pc2 := 65) C dX9_find_62 fl_X9_33 (by first | exact hy.k _ | assumption) (by first | exact hy.r _ _ | assumption) rfl ?_
          refine w_iload_n (pc2 := 66) C dX9_find_65 rfl rfl ?_
          -- at 66: .iaload
          refine z_iald (pc2 := 67) (j := p) C dX9_find_66 (by first | exact hy.k _ | assumption) (by omega) (by omega) (by decide) rfl ?_
          rw [rr 19 (by decide)]
          refine w_aload_n (pc2 := 68) C dX9_find_67 rfl rfl ?_
          refine w_getR (pc2 := 71) C dX9_find_68 fl_X9_36 (by first | exact hy.k _ | assumption) (by first | exact hy.r _ _ | assumption) rfl ?_
          refine w_iload (pc2 := 73) C dX9_find_71 rfl rfl ?_
          -- at 73: .iaload
          refine z_iald (pc2 := 74) (j := k) C dX9_find_73 (by first | exact hy.k _ | assumption) (by omega) (by omega) (by decide) rfl ?_
          rw [rr 13 (by decide)]
          refine z_isub (pc2 := 75) C dX9_find_74 rfl ?_
          refine w_istore (pc2 := 77) C dX9_find_75 rfl (by decide) rfl rfl ?_
          try dsimp only [List.set]
          refine w_aload_n (pc2 := 78) C dX9_find_77 rfl rfl ?_
          refine w_getR (pc2 := 81) C dX9_find_78 fl_X9_9 (by first | exact hy.k _ | assumption) (by first | exact hy.r _ _ | assumption) rfl ?_
          refine w_iload (pc2 := 83) C dX9_find_81 rfl rfl ?_
          -- at 83: .ifCond .ge 13
          refine z_if_ge (pc2 := 86) (tgt := 96) C dX9_find_83 (by decide) rfl (by omega) (fun h3 => ?_) (fun h3 => ?_)
          · rw [if_pos h3] at es
            rw [es] at ih2
            refine w_iload (pc2 := 98) C dX9_find_96 rfl rfl ?_
            refine w_dup2 (pc2 := 99) C dX9_find_98 rfl rfl rfl ?_
            -- at 99: .iaload
            refine z_iald (pc2 := 100) (j := (J 19 p - J 13 k).toNat) C dX9_find_99 (by first | exact hy.k _ | assumption) (by omega) (by omega) (by decide) rfl ?_
            refine w_iconst (pc2 := 101) (v := iI 1) C dX9_find_100 (by decide) rfl ?_
            refine z_iadd (pc2 := 102) C dX9_find_101 rfl ?_
            -- at 102: .iastore
            refine z_iast (pc2 := 103) (j := (J 19 p - J 13 k).toNat) C dX9_find_102 (by first | exact hy.k _ | assumption) (by omega) (by omega) (by decide) rfl ?_
            refine w_iinc (pc2 := 106) C dX9_find_103 rfl (iI_add _ _) rfl (by decide) rfl rfl ?_
            try dsimp only [List.set]
            refine w_goto (tgt := 36) C dX9_find_106 (by decide) ?_
            -- at 36: .iload 4
            exact w_drop ih2 ⟨rfl, rfl, rfl, rfl, rfl, trivial⟩
          · rw [if_neg h3] at es
            rw [es] at ih2
            refine w_iload (pc2 := 88) C dX9_find_86 rfl rfl ?_
            refine w_aload_n (pc2 := 89) C dX9_find_88 rfl rfl ?_
            refine z_getI (pc2 := 92) C dX9_find_89 fl_X9_15 (by first | exact hy.k _ | assumption) rfl ?_
            refine z_iadd (pc2 := 93) C dX9_find_92 rfl ?_
            refine w_goto (tgt := 98) C dX9_find_93 (by decide) ?_
            refine w_dup2 (pc2 := 99) C dX9_find_98 rfl rfl rfl ?_
            -- at 99: .iaload
            rw [rr 18 (by decide)]
            refine z_iald (pc2 := 100) (j := (J 19 p - J 13 k + J 18 3).toNat) C dX9_find_99 (by first | exact hy.k _ | assumption) (by omega) (by omega) (by decide) rfl ?_
            refine w_iconst (pc2 := 101) (v := iI 1) C dX9_find_100 (by decide) rfl ?_
            refine z_iadd (pc2 := 102) C dX9_find_101 rfl ?_
            -- at 102: .iastore
            refine z_iast (pc2 := 103) (j := (J 19 p - J 13 k + J 18 3).toNat) C dX9_find_102 (by first | exact hy.k _ | assumption) (by omega) (by omega) (by decide) rfl ?_
            refine w_iinc (pc2 := 106) C dX9_find_103 rfl (iI_add _ _) rfl (by decide) rfl rfl ?_
            try dsimp only [List.set]
            refine w_goto (tgt := 36) C dX9_find_106 (by decide) ?_
            -- at 36: .iload 4
            exact w_drop ih2 ⟨rfl, rfl, rfl, rfl, rfl, trivial⟩
  have key1 : ∀ (d p : Nat), p + d = m → wp Γ 0 0 (QQ Γ post) 25 [some (.ref 32), some (.ref 18), some (.ref 12), some (.int (iI p)), none, none] [] n K (zw (kOut (zeroK J s) c p)) L R := by
    intro d
    induction d with
    | zero =>
      intro p hpm
      have rr : ∀ a, a ≠ 33 → kOut (zeroK J s) c p a = J a := fun a ha => by rw [kOut_row ha]; exact ov_row ha
      refine w_iload_n (pc2 := 26) C dX9_find_25 rfl rfl ?_
      refine w_aload_n (pc2 := 27) C dX9_find_26 rfl rfl ?_
      refine z_getI (pc2 := 30) C dX9_find_27 fl_X9_21 (by first | exact hy.k _ | assumption) rfl ?_
      -- at 30: .if_icmp .ge 85
      rw [rr 18 (by decide)]
      refine z_icmp_ge (pc2 := 33) (tgt := 115) C dX9_find_30 (by decide) rfl (by omega) (by omega) (fun h1 => ?_) (fun h1 => ?_)
      · rw [show p = m by omega, hJ1]
        refine w_aload_n (pc2 := 116) C dX9_find_115 rfl rfl ?_
        refine w_iconst (pc2 := 117) (v := iI 0) C dX9_find_116 (by decide) rfl ?_
        refine z_putI (pc2 := 120) C dX9_find_117 fl_X9_39 (by first | exact hy.k _ | assumption) (by rfl) (by rfl) rfl ?_
        refine w_iconst (pc2 := 121) (v := iI 1) C dX9_find_120 (by decide) rfl ?_
        refine w_istore_n (pc2 := 122) C dX9_find_121 rfl (by decide) rfl rfl ?_
        try dsimp only [List.set]
        -- at 122: .iload_n 3
        have h9 := key3 (s - 1) 1 (by omega) (by omega)
        rw [show bestF (J1 33) 1 = 0 by simp [bestF]] at h9
        exact h9
      · exact absurd hpm (by omega)
    | succ d ih =>
      intro p hpm
      have rr : ∀ a, a ≠ 33 → kOut (zeroK J s) c p a = J a := fun a ha => by rw [kOut_row ha]; exact ov_row ha
      refine w_iload_n (pc2 := 26) C dX9_find_25 rfl rfl ?_
      refine w_aload_n (pc2 := 27) C dX9_find_26 rfl rfl ?_
      refine z_getI (pc2 := 30) C dX9_find_27 fl_X9_21 (by first | exact hy.k _ | assumption) rfl ?_
      -- at 30: .if_icmp .ge 85
      rw [rr 18 (by decide)]
      refine z_icmp_ge (pc2 := 33) (tgt := 115) C dX9_find_30 (by decide) rfl (by omega) (by omega) (fun h1 => ?_) (fun h1 => ?_)
      · exact absurd hpm (by omega)
      · skip
        refine w_iconst (pc2 := 34) (v := iI 0) C dX9_find_33 (by decide) rfl ?_
        refine w_istore (pc2 := 36) C dX9_find_34 rfl (by decide) rfl rfl ?_
        try dsimp only [List.set]
        -- at 36: .iload 4
        exact key2 c p 0 (by omega) (by omega) (ih (p + 1) (by omega))
  have key0 : ∀ (d j : Nat), j + d = s → wp Γ 0 0 (QQ Γ post) 2 [some (.ref 32), some (.ref 18), some (.ref 12), some (.int (iI j)), none, none] [] n K (zw (ov J 33 (fun _ => 0) j)) L R := by
    intro d
    induction d with
    | zero =>
      intro j hj
      have e18 : ov J 33 (fun _ => 0) j 18 = J 18 := ov_row (by decide)
      refine w_iload_n (pc2 := 3) C dX9_find_2 rfl rfl ?_
      refine w_aload_n (pc2 := 4) C dX9_find_3 rfl rfl ?_
      refine z_getI (pc2 := 7) C dX9_find_4 fl_X9_15 (by first | exact hy.k _ | assumption) rfl ?_
      -- at 7: .if_icmp .ge 16
      rw [e18]
      refine z_icmp_ge (pc2 := 10) (tgt := 23) C dX9_find_7 (by decide) rfl (by omega) (by omega) (fun h1 => ?_) (fun h1 => ?_)
      · rw [show j = s by omega]
        refine w_iconst (pc2 := 24) (v := iI 0) C dX9_find_23 (by decide) rfl ?_
        refine w_istore_n (pc2 := 25) C dX9_find_24 rfl (by decide) rfl rfl ?_
        try dsimp only [List.set]
        -- at 25: .iload_n 3
        exact key1 m 0 (by omega)
      · exact absurd hj (by omega)
    | succ d ih =>
      intro j hj
      have e18 : ov J 33 (fun _ => 0) j 18 = J 18 := ov_row (by decide)
      refine w_iload_n (pc2 := 3) C dX9_find_2 rfl rfl ?_
      refine w_aload_n (pc2 := 4) C dX9_find_3 rfl rfl ?_
      refine z_getI (pc2 := 7) C dX9_find_4 fl_X9_15 (by first | exact hy.k _ | assumption) rfl ?_
      -- at 7: .if_icmp .ge 16
      rw [e18]
      refine z_icmp_ge (pc2 := 10) (tgt := 23) C dX9_find_7 (by decide) rfl (by omega) (by omega) (fun h1 => ?_) (fun h1 => ?_)
      · exact absurd hj (by omega)
      · skip
        refine w_aload_n (pc2 := 11) C dX9_find_10 rfl rfl ?_
        refine w_getR (pc2 := 14) C dX9_find_11 fl_X9_9 (by first | exact hy.k _ | assumption) (by first | exact hy.r _ _ | assumption) rfl ?_
        refine w_iload_n (pc2 := 15) C dX9_find_14 rfl rfl ?_
        refine w_iconst (pc2 := 16) (v := iI 0) C dX9_find_15 (by decide) rfl ?_
        -- at 16: .iastore
        refine z_iast (pc2 := 17) (j := j) C dX9_find_16 (by first | exact hy.k _ | assumption) (by omega) (by omega) (by decide) rfl ?_
        have e := ov_up J 33 (fun _ => 0) j
        rw [e]
        refine w_iinc (pc2 := 20) C dX9_find_17 rfl (iI_add _ _) rfl (by decide) rfl rfl ?_
        try dsimp only [List.set]
        refine w_goto (tgt := 2) C dX9_find_20 (by decide) ?_
        -- at 2: .iload_n 3
        exact ih (j + 1) (by omega)
  refine w_iconst (pc2 := 1) (v := iI 0) C dX9_find_0 (by decide) rfl ?_
  refine w_istore_n (pc2 := 2) C dX9_find_1 rfl (by decide) rfl rfl ?_
  try dsimp only [List.set]
  -- at 2: .iload_n 3
  have := key0 s 0 (by omega)
  rw [ov_0] at this
  exact this
def chgJ (J : wJn) (c m s : Nat) : wJn :=
  let J1 := findJ J c m s
  up2 (up2 (pdJ J1 (J1 32 0) c) 18 2 c) 18 4 (J1 32 0)
theorem s_X10_change (hy : Ly K R) {c m s : Nat} (hm : Mus J c) (hp : Pin J m s) (hso : ∀ i, i < c → J 13 i ≤ J 13 (c - 1)) : S_X10_change [.ref 0] n K (zw J) L R (Det (some (.int (iI (if c = 0 ∨ J 13 (c - 1) < s then (c : Int) - findJ J c m s 32 1 else -1)))) n K (zw (if c = 0 ∨ J 13 (c - 1) < s then chgJ J c m s else J)) L R) := by
  have hc := hm.1
  have hc2 := hm.2.1
  have hp3 := hp.2.2.1
  have hp4 := hp.2.2.2.1
  have hp5 := hp.2.2.2.2.1
  refine Sp_intro [some (.ref 0)] rfl rfl (Nat.le_of_ble_eq_true rfl) rfl ?_
  intro Γ C
  replace C : C_X10_change Γ := C
  refine w_aload_n (pc2 := 1) C dX10_change_0 rfl rfl ?_
  refine w_getR (pc2 := 4) C dX10_change_1 fl_X10_28 (by first | exact hy.k _ | assumption) (by first | exact hy.r _ _ | assumption) rfl ?_
  refine w_getR (pc2 := 7) C dX10_change_4 fl_X10_162 (by first | exact hy.k _ | assumption) (by first | exact hy.r _ _ | assumption) rfl ?_
  refine w_aload_n (pc2 := 8) C dX10_change_7 rfl rfl ?_
  refine w_getR (pc2 := 11) C dX10_change_8 fl_X10_28 (by first | exact hy.k _ | assumption) (by first | exact hy.r _ _ | assumption) rfl ?_
  refine w_getR (pc2 := 14) C dX10_change_11 fl_X10_38 (by first | exact hy.k _ | assumption) (by first | exact hy.r _ _ | assumption) rfl ?_
  -- at 14: .invokevirtual 171
  refine w_cVi (pc2 := 17)  C dX10_change_14 mb_X10_171 mv_X1_fits (s_X1_fits hy hm (by omega)) (by first | exact hy.k _ | assumption) rfl (by decide) rfl rfl (Nat.le_of_ble_eq_true rfl) ⟨by decide, by decide⟩ ⟨rfl, rfl⟩ ⟨by decide, by decide⟩ rfl ?_
  -- at 17: .ifCond .ne 5
  refine z_if_ne (pc2 := 20) (tgt := 22) C dX10_change_17 (by decide) rfl (by split <;> omega) (fun h1 => ?_) (fun h1 => ?_)
  · have h2 : c = 0 ∨ J 13 (c - 1) < s := by
      rcases Decidable.em (c = 0 ∨ J 13 (c - 1) < J 18 3) with q | q
      · omega
      · rw [if_neg q] at h1; exact absurd rfl h1
    have hts : ∀ i, i < c → J 13 i < s := fun i hi => by have := hso i hi; omega
    have q1 : ∀ a, a ≠ 33 → a ≠ 32 → findJ J c m s a = J a := fun a ha hb => by
      unfold findJ
      rw [up2_row hb, up2_row hb, kOut_row ha]
      exact ov_row ha
    have hm2 : Mus (findJ J c m s) c := hm.rows (q1 12 (by decide) (by decide)) (q1 13 (by decide) (by decide)) (q1 14 (by decide) (by decide))
    have e18 : findJ J c m s 18 = J 18 := q1 18 (by decide) (by decide)
    have hb : 0 ≤ findJ J c m s 32 0 ∧ findJ J c m s 32 0 < findJ J c m s 18 3 := by
      have e : findJ J c m s 32 0 = bestF (kOut (zeroK J s) c m 33) s := by
        unfold findJ
        rw [up2_n _ _ _ _ (by omega), up2_s]
      rw [e18, e, hp3]
      have := bestF_lt (kOut (zeroK J s) c m 33) s (by omega)
      omega
    refine w_aload_n (pc2 := 23) C dX10_change_22 rfl rfl ?_
    refine w_getR (pc2 := 26) C dX10_change_23 fl_X10_59 (by first | exact hy.k _ | assumption) (by first | exact hy.r _ _ | assumption) rfl ?_
    refine w_aload_n (pc2 := 27) C dX10_change_26 rfl rfl ?_
    refine w_getR (pc2 := 30) C dX10_change_27 fl_X10_28 (by first | exact hy.k _ | assumption) (by first | exact hy.r _ _ | assumption) rfl ?_
    refine w_getR (pc2 := 33) C dX10_change_30 fl_X10_162 (by first | exact hy.k _ | assumption) (by first | exact hy.r _ _ | assumption) rfl ?_
    refine w_aload_n (pc2 := 34) C dX10_change_33 rfl rfl ?_
    refine w_getR (pc2 := 37) C dX10_change_34 fl_X10_28 (by first | exact hy.k _ | assumption) (by first | exact hy.r _ _ | assumption) rfl ?_
    refine w_getR (pc2 := 40) C dX10_change_37 fl_X10_38 (by first | exact hy.k _ | assumption) (by first | exact hy.r _ _ | assumption) rfl ?_
    -- at 40: .invokevirtual 175
    refine w_cVv (pc2 := 43)  C dX10_change_40 mb_X10_175 mv_X9_find (s_X9_find hy hm hp hts) (by first | exact hy.k _ | assumption) rfl (by decide) rfl rfl (Nat.le_of_ble_eq_true rfl) ⟨by decide, by decide⟩ ⟨rfl, rfl⟩ ⟨by decide, by decide⟩ rfl ?_
    refine w_aload_n (pc2 := 44) C dX10_change_43 rfl rfl ?_
    refine w_getR (pc2 := 47) C dX10_change_44 fl_X10_28 (by first | exact hy.k _ | assumption) (by first | exact hy.r _ _ | assumption) rfl ?_
    refine w_getR (pc2 := 50) C dX10_change_47 fl_X10_162 (by first | exact hy.k _ | assumption) (by first | exact hy.r _ _ | assumption) rfl ?_
    refine w_aload_n (pc2 := 51) C dX10_change_50 rfl rfl ?_
    refine w_getR (pc2 := 54) C dX10_change_51 fl_X10_28 (by first | exact hy.k _ | assumption) (by first | exact hy.r _ _ | assumption) rfl ?_
    refine w_getR (pc2 := 57) C dX10_change_54 fl_X10_38 (by first | exact hy.k _ | assumption) (by first | exact hy.r _ _ | assumption) rfl ?_
    refine w_aload_n (pc2 := 58) C dX10_change_57 rfl rfl ?_
    refine w_getR (pc2 := 61) C dX10_change_58 fl_X10_59 (by first | exact hy.k _ | assumption) (by first | exact hy.r _ _ | assumption) rfl ?_
    refine z_getI (pc2 := 64) C dX10_change_61 fl_X10_179 (by first | exact hy.k _ | assumption) rfl ?_
    -- at 64: .invokevirtual 182
    refine w_cVv (pc2 := 67)  C dX10_change_64 mb_X10_182 mv_X1_pinDown (s_X1_pinDown hy hm2 (by rw [e18]; omega) hb) (by first | exact hy.k _ | assumption) rfl (by decide) rfl rfl (Nat.le_of_ble_eq_true rfl) ⟨by decide, by decide⟩ ⟨rfl, rfl⟩ ⟨by decide, by decide⟩ rfl ?_
    refine w_aload_n (pc2 := 68) C dX10_change_67 rfl rfl ?_
    refine w_getR (pc2 := 71) C dX10_change_68 fl_X10_28 (by first | exact hy.k _ | assumption) (by first | exact hy.r _ _ | assumption) rfl ?_
    refine w_getR (pc2 := 74) C dX10_change_71 fl_X10_38 (by first | exact hy.k _ | assumption) (by first | exact hy.r _ _ | assumption) rfl ?_
    refine z_getI (pc2 := 77) C dX10_change_74 fl_X10_98 (by first | exact hy.k _ | assumption) rfl ?_
    refine w_aload_n (pc2 := 78) C dX10_change_77 rfl rfl ?_
    refine w_getR (pc2 := 81) C dX10_change_78 fl_X10_59 (by first | exact hy.k _ | assumption) (by first | exact hy.r _ _ | assumption) rfl ?_
    refine z_getI (pc2 := 84) C dX10_change_81 fl_X10_186 (by first | exact hy.k _ | assumption) rfl ?_
    refine z_isub (pc2 := 85) C dX10_change_84 rfl ?_
    -- at 85: .ireturn
    have e1 : (up2 (up2 (pdJ (findJ J c m s) (findJ J c m s 32 0) c) 18 2 c) 18 4 (findJ J c m s 32 0)) 12 2 = (c : Int) := by
      rw [up2_row (by decide), up2_row (by decide), pdJ_row (by decide) (by decide)]; exact hm2.1
    have e2 : (up2 (up2 (pdJ (findJ J c m s) (findJ J c m s 32 0) c) 18 2 c) 18 4 (findJ J c m s 32 0)) 32 1 = findJ J c m s 32 1 := by
      rw [up2_row (by decide), up2_row (by decide), pdJ_row (by decide) (by decide)]
    rw [e1, e2]
    exact w_iret C dX10_change_85 (by decide) (by decide) (DetI (by rw [if_pos h2]) (by rw [if_pos h2]; rfl))
  · have h2 : ¬ (c = 0 ∨ J 13 (c - 1) < s) := by
      intro q
      rw [if_pos (by omega)] at h1; exact absurd h1 (by decide)
    refine w_iconst (pc2 := 21) (v := iI (-1)) C dX10_change_20 (by decide) rfl ?_
    -- at 21: .ireturn
    exact w_iret C dX10_change_21 (by decide) (by decide) (DetI (by rw [if_neg h2]) (by rw [if_neg h2]))
end FIND
end
section
/-! ===== playing, by the class ===== -/
/-- STRIKES struck: as THE SETTING (who) says, as the drum's pins -/
def pfL (L : wLn) (bl who : Nat → Int) : Nat → wLn
  | 0 => L
  | k + 1 => if who k = 2 then pfL L bl who k else up2 (pfL L bl who k) 22 (bl k).toNat (pfL L bl who k 22 (bl k).toNat + 1)
def pdL (L : wLn) (bl : Nat → Int) : Nat → wLn
  | 0 => L
  | k + 1 => up2 (pdL L bl k) 22 (bl k).toNat (pdL L bl k 22 (bl k).toNat + 1)
section PLAY
variable {n : Nat} {K : wKd} {J : wJn} {L : wLn} {R : wRf}
theorem s_X0_playByFists (hy : Ly K R) {c : Nat} (hm : Mus J c) (hw : ∀ k, k < c → R32 (J 25 k)) : S_X0_playByFists [.ref 21, .ref 12, .ref 24] n K (zw J) L R (Det (some (.int (iI (cntN (fun k => decide (¬ J 25 k = 2)) c)))) n K (zw J) (pfL L (J 14) (J 25) c) R) := by
  have hc := hm.1
  have hc2 := hm.2.1
  refine Sp_intro [some (.ref 21), some (.ref 12), some (.ref 24), none, none] rfl rfl (Nat.le_of_ble_eq_true rfl) rfl ?_
  intro Γ C
  replace C : C_X0_playByFists Γ := C
  have key : ∀ (d k : Nat), k + d = c → wp Γ 0 0 (QQ Γ (Det (some (.int (iI (cntN (fun k => decide (¬ J 25 k = 2)) c)))) n K (zw J) (pfL L (J 14) (J 25) c) R)) 5 [some (.ref 21), some (.ref 12), some (.ref 24), some (.int (iI (cntN (fun k => decide (¬ J 25 k = 2)) k))), some (.int (iI k))] [] n K (zw J) (pfL L (J 14) (J 25) k) R := by
    intro d
    induction d with
    | zero =>
      intro k hk
      refine w_iload (pc2 := 7) C dX0_playByFists_5 rfl rfl ?_
      refine w_aload_n (pc2 := 8) C dX0_playByFists_7 rfl rfl ?_
      refine z_getI (pc2 := 11) C dX0_playByFists_8 fl_X0_15 (by first | exact hy.k _ | assumption) rfl ?_
      -- at 11: .if_icmp .ge 39
      refine z_icmp_ge (pc2 := 14) (tgt := 50) C dX0_playByFists_11 (by decide) rfl (by omega) (by omega) (fun h1 => ?_) (fun h1 => ?_)
      · rw [show k = c by omega]
        refine w_iload_n (pc2 := 51) C dX0_playByFists_50 rfl rfl ?_
        -- at 51: .ireturn
        exact w_iret C dX0_playByFists_51 (by decide) (by decide) (⟨rfl, rfl, rfl, rfl, rfl, rfl⟩)
      · exact absurd hk (by omega)
    | succ d ih =>
      intro k hk
      have g1 := hm.2.2 k (by omega)
      have g2 := hw k (by omega)
      have ih2 := ih (k + 1) (by omega)
      simp only [cntN, pfL] at ih2
      refine w_iload (pc2 := 7) C dX0_playByFists_5 rfl rfl ?_
      refine w_aload_n (pc2 := 8) C dX0_playByFists_7 rfl rfl ?_
      refine z_getI (pc2 := 11) C dX0_playByFists_8 fl_X0_15 (by first | exact hy.k _ | assumption) rfl ?_
      -- at 11: .if_icmp .ge 39
      refine z_icmp_ge (pc2 := 14) (tgt := 50) C dX0_playByFists_11 (by decide) rfl (by omega) (by omega) (fun h1 => ?_) (fun h1 => ?_)
      · exact absurd hk (by omega)
      · skip
        refine w_aload_n (pc2 := 15) C dX0_playByFists_14 rfl rfl ?_
        refine w_getR (pc2 := 18) C dX0_playByFists_15 fl_X0_21 (by first | exact hy.k _ | assumption) (by first | exact hy.r _ _ | assumption) rfl ?_
        refine w_iload (pc2 := 20) C dX0_playByFists_18 rfl rfl ?_
        -- at 20: .iaload
        refine z_iald (pc2 := 21) (j := k) C dX0_playByFists_20 (by first | exact hy.k _ | assumption) (by omega) (by omega) (by decide) rfl ?_
        refine w_iconst (pc2 := 22) (v := iI 2) C dX0_playByFists_21 (by decide) rfl ?_
        -- at 22: .if_icmp .eq 22
        refine z_icmp_eq (pc2 := 25) (tgt := 44) C dX0_playByFists_22 (by decide) rfl (by omega) (by omega) (fun h2 => ?_) (fun h2 => ?_)
        · rw [if_neg (by simp [h2]), if_pos h2] at ih2
          refine w_iinc (pc2 := 47) C dX0_playByFists_44 rfl (iI_add _ _) rfl (by decide) rfl rfl ?_
          try dsimp only [List.set]
          refine w_goto (tgt := 5) C dX0_playByFists_47 (by decide) ?_
          -- at 5: .iload 4
          exact ih2
        · rw [if_pos (by simp [h2]), if_neg h2] at ih2
          refine w_aload_n (pc2 := 26) C dX0_playByFists_25 rfl rfl ?_
          refine w_getR (pc2 := 29) C dX0_playByFists_26 fl_X0_9 (by first | exact hy.k _ | assumption) (by first | exact hy.r _ _ | assumption) rfl ?_
          refine w_aload_n (pc2 := 30) C dX0_playByFists_29 rfl rfl ?_
          refine w_getR (pc2 := 33) C dX0_playByFists_30 fl_X0_27 (by first | exact hy.k _ | assumption) (by first | exact hy.r _ _ | assumption) rfl ?_
          refine w_iload (pc2 := 35) C dX0_playByFists_33 rfl rfl ?_
          -- at 35: .iaload
          refine z_iald (pc2 := 36) (j := k) C dX0_playByFists_35 (by first | exact hy.k _ | assumption) (by omega) (by omega) (by decide) rfl ?_
          refine w_dup2 (pc2 := 37) C dX0_playByFists_36 rfl rfl rfl ?_
          -- at 37: .laload
          refine z_lald (pc2 := 38) (j := (J 14 k).toNat) C dX0_playByFists_37 (by first | exact hy.k _ | assumption) (by omega) (by omega) (by decide) rfl ?_
          refine w_lconst (pc2 := 39) (v := 1) C dX0_playByFists_38 (by decide) rfl ?_
          refine w_ladd (pc2 := 40) C dX0_playByFists_39 rfl ?_
          -- at 40: .lastore
          refine z_last (pc2 := 41) (j := (J 14 k).toNat) C dX0_playByFists_40 (by first | exact hy.k _ | assumption) (by omega) (by omega) (by decide) rfl ?_
          refine w_iinc (pc2 := 44) C dX0_playByFists_41 rfl (iI_add _ _) rfl (by decide) rfl rfl ?_
          try dsimp only [List.set]
          refine w_iinc (pc2 := 47) C dX0_playByFists_44 rfl (iI_add _ _) rfl (by decide) rfl rfl ?_
          try dsimp only [List.set]
          refine w_goto (tgt := 5) C dX0_playByFists_47 (by decide) ?_
          -- at 5: .iload 4
          exact ih2
  refine w_iconst (pc2 := 1) (v := iI 0) C dX0_playByFists_0 (by decide) rfl ?_
  refine w_istore_n (pc2 := 2) C dX0_playByFists_1 rfl (by decide) rfl rfl ?_
  try dsimp only [List.set]
  refine w_iconst (pc2 := 3) (v := iI 0) C dX0_playByFists_2 (by decide) rfl ?_
  refine w_istore (pc2 := 5) C dX0_playByFists_3 rfl (by decide) rfl rfl ?_
  try dsimp only [List.set]
  -- at 5: .iload 4
  exact key c 0 (by omega)
theorem s_X0_playByDrum (hy : Ly K R) {m s : Nat} (hp : Pin J m s) : S_X0_playByDrum [.ref 21, .ref 18] n K (zw J) L R (Det (some (.int (iI m))) n K (zw J) (pdL L (J 20) m) R) := by
  obtain ⟨hp1, hp2, hp3, hp4, hp5, hp6⟩ := hp
  refine Sp_intro [some (.ref 21), some (.ref 18), none] rfl rfl (Nat.le_of_ble_eq_true rfl) rfl ?_
  intro Γ C
  replace C : C_X0_playByDrum Γ := C
  have key : ∀ (d k : Nat), k + d = m → wp Γ 0 0 (QQ Γ (Det (some (.int (iI m))) n K (zw J) (pdL L (J 20) m) R)) 2 [some (.ref 21), some (.ref 18), some (.int (iI k))] [] n K (zw J) (pdL L (J 20) k) R := by
    intro d
    induction d with
    | zero =>
      intro k hk
      refine w_iload_n (pc2 := 3) C dX0_playByDrum_2 rfl rfl ?_
      refine w_aload_n (pc2 := 4) C dX0_playByDrum_3 rfl rfl ?_
      refine z_getI (pc2 := 7) C dX0_playByDrum_4 fl_X0_30 (by first | exact hy.k _ | assumption) rfl ?_
      -- at 7: .if_icmp .ge 24
      refine z_icmp_ge (pc2 := 10) (tgt := 31) C dX0_playByDrum_7 (by decide) rfl (by omega) (by omega) (fun h1 => ?_) (fun h1 => ?_)
      · rw [show k = m by omega]
        refine w_aload_n (pc2 := 32) C dX0_playByDrum_31 rfl rfl ?_
        refine z_getI (pc2 := 35) C dX0_playByDrum_32 fl_X0_30 (by first | exact hy.k _ | assumption) rfl ?_
        -- at 35: .ireturn
        exact w_iret C dX0_playByDrum_35 (by decide) (by decide) (DetI (by rw [hp1]) rfl)
      · exact absurd hk (by omega)
    | succ d ih =>
      intro k hk
      have g1 := hp6 k (by omega)
      have ih2 := ih (k + 1) (by omega)
      simp only [pdL] at ih2
      refine w_iload_n (pc2 := 3) C dX0_playByDrum_2 rfl rfl ?_
      refine w_aload_n (pc2 := 4) C dX0_playByDrum_3 rfl rfl ?_
      refine z_getI (pc2 := 7) C dX0_playByDrum_4 fl_X0_30 (by first | exact hy.k _ | assumption) rfl ?_
      -- at 7: .if_icmp .ge 24
      refine z_icmp_ge (pc2 := 10) (tgt := 31) C dX0_playByDrum_7 (by decide) rfl (by omega) (by omega) (fun h1 => ?_) (fun h1 => ?_)
      · exact absurd hk (by omega)
      · skip
        refine w_aload_n (pc2 := 11) C dX0_playByDrum_10 rfl rfl ?_
        refine w_getR (pc2 := 14) C dX0_playByDrum_11 fl_X0_9 (by first | exact hy.k _ | assumption) (by first | exact hy.r _ _ | assumption) rfl ?_
        refine w_aload_n (pc2 := 15) C dX0_playByDrum_14 rfl rfl ?_
        refine w_getR (pc2 := 18) C dX0_playByDrum_15 fl_X0_33 (by first | exact hy.k _ | assumption) (by first | exact hy.r _ _ | assumption) rfl ?_
        refine w_iload_n (pc2 := 19) C dX0_playByDrum_18 rfl rfl ?_
        -- at 19: .iaload
        refine z_iald (pc2 := 20) (j := k) C dX0_playByDrum_19 (by first | exact hy.k _ | assumption) (by omega) (by omega) (by decide) rfl ?_
        refine w_dup2 (pc2 := 21) C dX0_playByDrum_20 rfl rfl rfl ?_
        -- at 21: .laload
        refine z_lald (pc2 := 22) (j := (J 20 k).toNat) C dX0_playByDrum_21 (by first | exact hy.k _ | assumption) (by omega) (by omega) (by decide) rfl ?_
        refine w_lconst (pc2 := 23) (v := 1) C dX0_playByDrum_22 (by decide) rfl ?_
        refine w_ladd (pc2 := 24) C dX0_playByDrum_23 rfl ?_
        -- at 24: .lastore
        refine z_last (pc2 := 25) (j := (J 20 k).toNat) C dX0_playByDrum_24 (by first | exact hy.k _ | assumption) (by omega) (by omega) (by decide) rfl ?_
        refine w_iinc (pc2 := 28) C dX0_playByDrum_25 rfl (iI_add _ _) rfl (by decide) rfl rfl ?_
        try dsimp only [List.set]
        refine w_goto (tgt := 2) C dX0_playByDrum_28 (by decide) ?_
        -- at 2: .iload_n 2
        exact ih2
  refine w_iconst (pc2 := 1) (v := iI 0) C dX0_playByDrum_0 (by decide) rfl ?_
  refine w_istore_n (pc2 := 2) C dX0_playByDrum_1 rfl (by decide) rfl rfl ?_
  try dsimp only [List.set]
  -- at 2: .iload_n 2
  exact key m 0 (by omega)
theorem addN_sz (a : Int) : ∀ (d : Nat) (J : wJn), addN a d J 1 1 = J 1 1 + d
  | 0, J => by simp [addN]
  | d + 1, J => by
    simp only [addN]
    rw [addN_sz a d, up2_s]
    omega
def fedJ (J : wJn) (a b c d e : Int) : wJn := addN e 4 (addN d 4 (addN c 4 (addN b 4 (addN a 4 J))))
theorem s_X10_feed (hy : Ly K R) {a b c d e : Int} (h0 : 0 ≤ J 1 1 ∧ J 1 1 ≤ 1000) : S_X10_feed [.ref 0, .int (iI a), .int (iI b), .int (iI c), .int (iI d), .int (iI e)] n K (zw J) L R (Det (some (.int (iI (if J 1 1 + 20 ≤ 1000 then J 1 1 + 20 else -1)))) n K (zw (if J 1 1 + 20 ≤ 1000 then fedJ J a b c d e else J)) L R) := by
  refine Sp_intro [some (.ref 0), some (.int (iI a)), some (.int (iI b)), some (.int (iI c)), some (.int (iI d)), some (.int (iI e))] rfl rfl (Nat.le_of_ble_eq_true rfl) rfl ?_
  intro Γ C
  replace C : C_X10_feed Γ := C
  refine w_aload_n (pc2 := 1) C dX10_feed_0 rfl rfl ?_
  refine w_getR (pc2 := 4) C dX10_feed_1 fl_X10_10 (by first | exact hy.k _ | assumption) (by first | exact hy.r _ _ | assumption) rfl ?_
  -- at 4: .invokevirtual 67
  refine w_cVi (pc2 := 7)  C dX10_feed_4 mb_X10_67 mv_X7_hasRoom (s_X7_hasRoom hy (by omega) h0) (by first | exact hy.k _ | assumption) rfl (by decide) rfl rfl (Nat.le_of_ble_eq_true rfl) ⟨by decide, by decide⟩ ⟨rfl, rfl⟩ ⟨by decide, by decide⟩ rfl ?_
  -- at 7: .ifCond .ne 5
  refine z_if_ne (pc2 := 10) (tgt := 12) C dX10_feed_7 (by decide) rfl (by split <;> omega) (fun h1 => ?_) (fun h1 => ?_)
  · have h2 : J 1 1 + 20 ≤ 1000 := by
      rcases Decidable.em (J 1 1 + 20 ≤ 1000) with q | q
      · exact q
      · rw [if_neg q] at h1; exact absurd rfl h1
    have e1 := addN_sz a 4 J
    have e2 := addN_sz b 4 (addN a 4 J)
    have e3 := addN_sz c 4 (addN b 4 (addN a 4 J))
    have e4 := addN_sz d 4 (addN c 4 (addN b 4 (addN a 4 J)))
    have e5 := addN_sz e 4 (addN d 4 (addN c 4 (addN b 4 (addN a 4 J))))
    refine w_aload_n (pc2 := 13) C dX10_feed_12 rfl rfl ?_
    refine w_getR (pc2 := 16) C dX10_feed_13 fl_X10_10 (by first | exact hy.k _ | assumption) (by first | exact hy.r _ _ | assumption) rfl ?_
    refine w_iload_n (pc2 := 17) C dX10_feed_16 rfl rfl ?_
    -- at 17: .invokevirtual 71
    refine w_cVv (pc2 := 20)  C dX10_feed_17 mb_X10_71 mv_X7_addNumber (s_X7_addNumber hy (by omega) (by omega)) (by first | exact hy.k _ | assumption) rfl (by decide) rfl rfl (Nat.le_of_ble_eq_true rfl) ⟨by decide, by decide⟩ ⟨rfl, rfl⟩ ⟨by decide, by decide⟩ rfl ?_
    refine w_aload_n (pc2 := 21) C dX10_feed_20 rfl rfl ?_
    refine w_getR (pc2 := 24) C dX10_feed_21 fl_X10_10 (by first | exact hy.k _ | assumption) (by first | exact hy.r _ _ | assumption) rfl ?_
    refine w_iload_n (pc2 := 25) C dX10_feed_24 rfl rfl ?_
    -- at 25: .invokevirtual 71
    refine w_cVv (pc2 := 28)  C dX10_feed_25 mb_X10_71 mv_X7_addNumber (s_X7_addNumber hy (by omega) (by omega)) (by first | exact hy.k _ | assumption) rfl (by decide) rfl rfl (Nat.le_of_ble_eq_true rfl) ⟨by decide, by decide⟩ ⟨rfl, rfl⟩ ⟨by decide, by decide⟩ rfl ?_
    refine w_aload_n (pc2 := 29) C dX10_feed_28 rfl rfl ?_
    refine w_getR (pc2 := 32) C dX10_feed_29 fl_X10_10 (by first | exact hy.k _ | assumption) (by first | exact hy.r _ _ | assumption) rfl ?_
    refine w_iload_n (pc2 := 33) C dX10_feed_32 rfl rfl ?_
    -- at 33: .invokevirtual 71
    refine w_cVv (pc2 := 36)  C dX10_feed_33 mb_X10_71 mv_X7_addNumber (s_X7_addNumber hy (by omega) (by omega)) (by first | exact hy.k _ | assumption) rfl (by decide) rfl rfl (Nat.le_of_ble_eq_true rfl) ⟨by decide, by decide⟩ ⟨rfl, rfl⟩ ⟨by decide, by decide⟩ rfl ?_
    refine w_aload_n (pc2 := 37) C dX10_feed_36 rfl rfl ?_
    refine w_getR (pc2 := 40) C dX10_feed_37 fl_X10_10 (by first | exact hy.k _ | assumption) (by first | exact hy.r _ _ | assumption) rfl ?_
    refine w_iload (pc2 := 42) C dX10_feed_40 rfl rfl ?_
    -- at 42: .invokevirtual 71
    refine w_cVv (pc2 := 45)  C dX10_feed_42 mb_X10_71 mv_X7_addNumber (s_X7_addNumber hy (by omega) (by omega)) (by first | exact hy.k _ | assumption) rfl (by decide) rfl rfl (Nat.le_of_ble_eq_true rfl) ⟨by decide, by decide⟩ ⟨rfl, rfl⟩ ⟨by decide, by decide⟩ rfl ?_
    refine w_aload_n (pc2 := 46) C dX10_feed_45 rfl rfl ?_
    refine w_getR (pc2 := 49) C dX10_feed_46 fl_X10_10 (by first | exact hy.k _ | assumption) (by first | exact hy.r _ _ | assumption) rfl ?_
    refine w_iload (pc2 := 51) C dX10_feed_49 rfl rfl ?_
    -- at 51: .invokevirtual 71
    refine w_cVv (pc2 := 54)  C dX10_feed_51 mb_X10_71 mv_X7_addNumber (s_X7_addNumber hy (by omega) (by omega)) (by first | exact hy.k _ | assumption) rfl (by decide) rfl rfl (Nat.le_of_ble_eq_true rfl) ⟨by decide, by decide⟩ ⟨rfl, rfl⟩ ⟨by decide, by decide⟩ rfl ?_
    refine w_aload_n (pc2 := 55) C dX10_feed_54 rfl rfl ?_
    refine w_getR (pc2 := 58) C dX10_feed_55 fl_X10_10 (by first | exact hy.k _ | assumption) (by first | exact hy.r _ _ | assumption) rfl ?_
    refine z_getI (pc2 := 61) C dX10_feed_58 fl_X10_75 (by first | exact hy.k _ | assumption) rfl ?_
    -- at 61: .ireturn
    exact w_iret C dX10_feed_61 (by decide) (by decide) (DetI (by rw [if_pos h2, e5, e4, e3, e2, e1]; congr 3; omega) (by rw [if_pos h2]; rfl))
  · have h2 : ¬ J 1 1 + 20 ≤ 1000 := by
      intro q
      rw [if_pos (by omega)] at h1; exact absurd h1 (by decide)
    refine w_iconst (pc2 := 11) (v := iI (-1)) C dX10_feed_10 (by decide) rfl ?_
    -- at 11: .ireturn
    exact w_iret C dX10_feed_11 (by decide) (by decide) (DetI (by rw [if_neg h2]) (by rw [if_neg h2]))
end PLAY
end
