/-! bits: three rows out of the kit's texts to paste (NUMBERS) -/
theorem fa_and (a b : Nat) : nI a &&& nI b = nI (a &&& b) := by
  apply Int32.toBitVec_inj.1
  show BitVec.ofNat 32 a &&& BitVec.ofNat 32 b = BitVec.ofNat 32 (a &&& b)
  apply BitVec.eq_of_getLsbD_eq
  intro i hi
  simp [hi]
theorem fa_or (a b : Nat) : nI a ||| nI b = nI (a ||| b) := by
  apply Int32.toBitVec_inj.1
  show BitVec.ofNat 32 a ||| BitVec.ofNat 32 b = BitVec.ofNat 32 (a ||| b)
  apply BitVec.eq_of_getLsbD_eq
  intro i hi
  simp [hi]
theorem fa_bit {n j : Nat} (hj : j < 31) : nI n &&& nI (2 ^ j) = 0 ↔ n.testBit j = false := by
  have h2 : (2 : Nat) ^ j < 2 ^ 31 := Nat.pow_lt_pow_right (by decide) hj
  have hle : n &&& 2 ^ j ≤ 2 ^ j := Nat.and_le_right
  have e : n &&& 2 ^ j = 0 ↔ n.testBit j = false := by
    constructor
    · intro h
      have h1 : (n &&& 2 ^ j).testBit j = false := by rw [h]; simp
      rw [Nat.testBit_and] at h1
      first | simpa using h1 | simpa [Nat.testBit_two_pow_self] using h1 | simpa [Nat.testBit_two_pow] using h1
    · intro h
      apply Nat.eq_of_testBit_eq
      intro i
      rw [Nat.testBit_and]
      by_cases hi : j = i
      · subst hi; simp [h]
      · first | (simp [Nat.testBit_two_pow, hi]; done) | (simp [Nat.testBit_two_pow_of_ne hi]; done)
  rw [fa_and]
  constructor
  · intro h
    apply e.mp
    rcases Nat.eq_zero_or_pos (n &&& 2 ^ j) with z | z
    · exact z
    · exact absurd h (nI_ne0 z (Nat.lt_of_le_of_lt hle h2))
  · intro h
    rw [e.mpr h]; exact nI_0
theorem w_ldcw {Γ : Gm} {own : String} {cc : ByteArray} {nL : Nat} {ret : Option FieldType} {rm : Room} {nm : String} {cells slots pc pc2 : Nat} {Q : State → Prop} {lo : List (Option Value)} {st : List Value} {n : Nat} {K : wKd} {I : wIn} {L : wLn} {R : wRf} (C : Cx Γ own cc nL ret rm nm) {i : Nat} {v : Int32} (hd : decode cc pc = .ok (.ldc_w i, 3)) (hc : Cond.constant own i v ∈ tg) (hp : pc + 3 = pc2) (k : wp Γ cells slots Q pc2 lo (.int v :: st) n K I L R) : wp Γ cells slots Q pc lo st n K I L R := by
  subst hp; intro H locs ls hW hS hl
  exact lv_ldcw C.1 C.2.1 C.2.2.2.2.1 (C.2.2.2.2.2.1 _ hc) hd (k H locs ls hW hS hl)
def ush (x : Int32) (k : Int) : Int32 := (x.toUInt32 >>> ((iI k).toUInt32 &&& Int32.toUInt32 31)).toInt32
def bc1 (x : Int32) : Int32 := x - (ush x 1 &&& 1431655765)
def bc2 (x : Int32) : Int32 := (x &&& 858993459) + (ush x 2 &&& 858993459)
def bc3 (x : Int32) : Int32 := (x + ush x 4) &&& 252645135
def bc4 (x : Int32) : Int32 := x + ush x 8
def bc5 (x : Int32) : Int32 := x + ush x 16
/-- Integer.bitCount, as it is reckoned -/
def bcE (x : Int32) : Int32 := bc5 (bc4 (bc3 (bc2 (bc1 x)))) &&& iI 63
section BITS
variable {n : Nat} {K : wKd} {J : wJn} {L : wLn} {R : wRf}
theorem s_bitCount {x : Int32} : S_J6_bitCount_0f7a4 [.int x] n K (zw J) L R (Det (some (.int (bcE x))) n K (zw J) L R) := by
  refine Sp_intro [some (.int x)] rfl rfl (Nat.le_of_ble_eq_true rfl) rfl ?_
  intro Γ C
  replace C : C_J6_bitCount_0f7a4 Γ := C
  refine w_iload_n (pc2 := 1) C dJ6_bitCount_0f7a4_0 rfl rfl ?_
  refine w_iload_n (pc2 := 2) C dJ6_bitCount_0f7a4_1 rfl rfl ?_
  refine w_iconst (pc2 := 3) (v := iI 1) C dJ6_bitCount_0f7a4_2 (by decide) rfl ?_
  refine w_iushr (pc2 := 4) C dJ6_bitCount_0f7a4_3 rfl ?_
  refine w_ldcw (pc2 := 7) C dJ6_bitCount_0f7a4_4 kc_J6_265 rfl ?_
  refine w_iand (pc2 := 8) C dJ6_bitCount_0f7a4_7 rfl ?_
  refine w_isub (pc2 := 9) C dJ6_bitCount_0f7a4_8 rfl ?_
  refine w_istore_n (pc2 := 10) C dJ6_bitCount_0f7a4_9 rfl (by decide) rfl rfl ?_
  try dsimp only [List.set]
  refine w_iload_n (pc2 := 11) C dJ6_bitCount_0f7a4_10 rfl rfl ?_
  refine w_ldcw (pc2 := 14) C dJ6_bitCount_0f7a4_11 kc_J6_266 rfl ?_
  refine w_iand (pc2 := 15) C dJ6_bitCount_0f7a4_14 rfl ?_
  refine w_iload_n (pc2 := 16) C dJ6_bitCount_0f7a4_15 rfl rfl ?_
  refine w_iconst (pc2 := 17) (v := iI 2) C dJ6_bitCount_0f7a4_16 (by decide) rfl ?_
  refine w_iushr (pc2 := 18) C dJ6_bitCount_0f7a4_17 rfl ?_
  refine w_ldcw (pc2 := 21) C dJ6_bitCount_0f7a4_18 kc_J6_266 rfl ?_
  refine w_iand (pc2 := 22) C dJ6_bitCount_0f7a4_21 rfl ?_
  refine w_iadd (pc2 := 23) C dJ6_bitCount_0f7a4_22 rfl ?_
  refine w_istore_n (pc2 := 24) C dJ6_bitCount_0f7a4_23 rfl (by decide) rfl rfl ?_
  try dsimp only [List.set]
  refine w_iload_n (pc2 := 25) C dJ6_bitCount_0f7a4_24 rfl rfl ?_
  refine w_iload_n (pc2 := 26) C dJ6_bitCount_0f7a4_25 rfl rfl ?_
  refine w_iconst (pc2 := 27) (v := iI 4) C dJ6_bitCount_0f7a4_26 (by decide) rfl ?_
  refine w_iushr (pc2 := 28) C dJ6_bitCount_0f7a4_27 rfl ?_
  refine w_iadd (pc2 := 29) C dJ6_bitCount_0f7a4_28 rfl ?_
  refine w_ldcw (pc2 := 32) C dJ6_bitCount_0f7a4_29 kc_J6_267 rfl ?_
  refine w_iand (pc2 := 33) C dJ6_bitCount_0f7a4_32 rfl ?_
  refine w_istore_n (pc2 := 34) C dJ6_bitCount_0f7a4_33 rfl (by decide) rfl rfl ?_
  try dsimp only [List.set]
  refine w_iload_n (pc2 := 35) C dJ6_bitCount_0f7a4_34 rfl rfl ?_
  refine w_iload_n (pc2 := 36) C dJ6_bitCount_0f7a4_35 rfl rfl ?_
  refine w_bipush (pc2 := 38) (v := iI 8) C dJ6_bitCount_0f7a4_36 (by decide) rfl ?_
  refine w_iushr (pc2 := 39) C dJ6_bitCount_0f7a4_38 rfl ?_
  refine w_iadd (pc2 := 40) C dJ6_bitCount_0f7a4_39 rfl ?_
  refine w_istore_n (pc2 := 41) C dJ6_bitCount_0f7a4_40 rfl (by decide) rfl rfl ?_
  try dsimp only [List.set]
  refine w_iload_n (pc2 := 42) C dJ6_bitCount_0f7a4_41 rfl rfl ?_
  refine w_iload_n (pc2 := 43) C dJ6_bitCount_0f7a4_42 rfl rfl ?_
  refine w_bipush (pc2 := 45) (v := iI 16) C dJ6_bitCount_0f7a4_43 (by decide) rfl ?_
  refine w_iushr (pc2 := 46) C dJ6_bitCount_0f7a4_45 rfl ?_
  refine w_iadd (pc2 := 47) C dJ6_bitCount_0f7a4_46 rfl ?_
  refine w_istore_n (pc2 := 48) C dJ6_bitCount_0f7a4_47 rfl (by decide) rfl rfl ?_
  try dsimp only [List.set]
  refine w_iload_n (pc2 := 49) C dJ6_bitCount_0f7a4_48 rfl rfl ?_
  refine w_bipush (pc2 := 51) (v := iI 63) C dJ6_bitCount_0f7a4_49 (by decide) rfl ?_
  refine w_iand (pc2 := 52) C dJ6_bitCount_0f7a4_51 rfl ?_
  exact w_iret C dJ6_bitCount_0f7a4_52 (by decide) (by decide) (⟨rfl, rfl, rfl, rfl, rfl, rfl⟩)
end BITS
def popc (m : Nat) : Nat → Nat := cntN (fun i => m.testBit i)
theorem popc_s (m i : Nat) : popc m (i + 1) = popc m i + (if m.testBit i = true then 1 else 0) := rfl
theorem popc_low {m i : Nat} : ∀ j, j ≤ i → popc (m + 2 ^ i) j = popc m j
  | 0, _ => rfl
  | j + 1, h => by
    have e : (m + 2 ^ i).testBit j = m.testBit j := by
      rw [Nat.add_comm]
      exact Nat.testBit_two_pow_add_gt (by omega) m
    rw [popc_s, popc_s, popc_low j (by omega)]
    simp only [e]
theorem popc_top {m i : Nat} (h : m < 2 ^ i) : popc (m + 2 ^ i) (i + 1) = popc m i + 1 := by
  have h2 : (m + 2 ^ i).testBit i = true := by
    rw [Nat.add_comm, Nat.testBit_two_pow_add_eq]
    simp [Nat.testBit_lt_two_pow h]
  rw [popc_s, popc_low i (Nat.le_refl i)]
  simp only [h2, if_true]
theorem popc_0 {m i : Nat} (h : m < 2 ^ i) (hp : popc m i = 0) : m = 0 := by
  induction i generalizing m with
  | zero => simpa using h
  | succ i ih =>
    by_cases hm : m < 2 ^ i
    · rw [popc_s] at hp
      exact ih hm (by omega)
    · have hlt : m - 2 ^ i < 2 ^ i := by rw [Nat.pow_succ] at h; omega
      have he : (m - 2 ^ i) + 2 ^ i = m := by omega
      have := popc_top hlt
      rw [he] at this
      omega
def bcN (n : Nat) : Nat :=
  let a := n - ((n / 2) &&& 1431655765)
  let b := (a &&& 858993459) + ((a / 4) &&& 858993459)
  let c := (b + b / 16) &&& 252645135
  let d := c + c / 256
  (d + d / 65536) &&& 63
/-- all masks: acc and k more bits below i -/
def chkB (q : Nat) : Nat → Nat → Nat → Bool
  | _, 0, acc => Nat.beq (bcN acc) q
  | 0, _ + 1, _ => true
  | i + 1, k + 1, acc => chkB q i (k + 1) acc && chkB q i k (acc + 2 ^ i)
theorem chkB_ok (q : Nat) : ∀ (i k acc : Nat), chkB q i k acc = true → ∀ m, m < 2 ^ i → popc m i = k → bcN (acc + m) = q
  | i, 0, acc, h, m, hm, hp => by
    have := popc_0 hm hp
    subst this
    have h : Nat.beq (bcN acc) q = true := by cases i <;> simpa [chkB] using h
    exact Nat.eq_of_beq_eq_true h
  | 0, k + 1, acc, h, m, hm, hp => by simp [popc, cntN] at hp
  | i + 1, k + 1, acc, h, m, hm, hp => by
    simp only [chkB, Bool.and_eq_true] at h
    by_cases hlt : m < 2 ^ i
    · have hb : m.testBit i = false := Nat.testBit_lt_two_pow hlt
      rw [popc_s] at hp
      simp only [hb] at hp
      exact chkB_ok q i (k + 1) acc h.1 m hlt (by simpa using hp)
    · have hl2 : m - 2 ^ i < 2 ^ i := by rw [Nat.pow_succ] at hm; omega
      have he : (m - 2 ^ i) + 2 ^ i = m := by omega
      have h3 := popc_top hl2
      rw [he] at h3
      have := chkB_ok q i k (acc + 2 ^ i) h.2 (m - 2 ^ i) hl2 (by omega)
      rw [← this]
      congr 1
      omega
set_option maxRecDepth 100000 in
theorem chkB_0 : chkB 0 24 0 0 = true := by decide +kernel
set_option maxRecDepth 100000 in
theorem chkB_1 : chkB 1 24 1 0 = true := by decide +kernel
set_option maxRecDepth 100000 in
theorem chkB_2 : chkB 2 24 2 0 = true := by decide +kernel
set_option maxRecDepth 100000 in
theorem chkB_3 : chkB 3 24 3 0 = true := by decide +kernel
set_option maxRecDepth 100000 in
theorem chkB_4 : chkB 4 24 4 0 = true := by decide +kernel
theorem ush_n {m k : Nat} (hm : m < 2 ^ 32) (hk : (((iI (k : Int)).toUInt32 &&& Int32.toUInt32 31).toBitVec % 32).toNat = k) : ush (nI m) k = nI (m / 2 ^ k) := pk_ushrN hm (iI (k : Int)) k hk
theorem bcE_n {m : Nat} (h : m < 2 ^ 24) : bcE (nI m) = nI (bcN m) := by
  have l1 : ((m / 2) &&& 1431655765) ≤ m / 2 := Nat.and_le_left
  have e1 : bc1 (nI m) = nI (m - ((m / 2) &&& 1431655765)) := by
    unfold bc1
    rw [show ush (nI m) 1 = nI (m / 2 ^ 1) from ush_n (k := 1) (by omega) (by decide), show (1431655765 : Int32) = nI 1431655765 from rfl, fa_and, pk_sub (by show (m / 2 ^ 1 &&& 1431655765) ≤ m; simp only [Nat.pow_one]; omega)]
  generalize ha : m - ((m / 2) &&& 1431655765) = a at e1
  have la : a < 2 ^ 24 := by omega
  have l2 : (a &&& 858993459) ≤ a := Nat.and_le_left
  have l3 : ((a / 4) &&& 858993459) ≤ a / 4 := Nat.and_le_left
  have e2 : bc2 (nI a) = nI ((a &&& 858993459) + ((a / 4) &&& 858993459)) := by
    unfold bc2
    rw [show ush (nI a) 2 = nI (a / 2 ^ 2) from ush_n (k := 2) (by omega) (by decide), show (858993459 : Int32) = nI 858993459 from rfl, fa_and, fa_and, nI_add]
  generalize hb : (a &&& 858993459) + ((a / 4) &&& 858993459) = b at e2
  have lb : b < 2 ^ 25 := by omega
  have l4 : ((b + b / 16) &&& 252645135) ≤ 252645135 := Nat.and_le_right
  have e3 : bc3 (nI b) = nI ((b + b / 16) &&& 252645135) := by
    unfold bc3
    rw [show ush (nI b) 4 = nI (b / 2 ^ 4) from ush_n (k := 4) (by omega) (by decide), show (252645135 : Int32) = nI 252645135 from rfl, nI_add, fa_and]
  generalize hc : (b + b / 16) &&& 252645135 = c at e3
  have e4 : bc4 (nI c) = nI (c + c / 256) := by
    unfold bc4
    rw [show ush (nI c) 8 = nI (c / 2 ^ 8) from ush_n (k := 8) (by omega) (by decide), nI_add]
  generalize hd : c + c / 256 = d at e4
  have e5 : bc5 (nI d) = nI (d + d / 65536) := by
    unfold bc5
    rw [show ush (nI d) 16 = nI (d / 2 ^ 16) from ush_n (k := 16) (by omega) (by decide), nI_add]
  unfold bcE
  rw [e1, e2, e3, e4, e5, show iI 63 = nI 63 from rfl, fa_and]
  unfold bcN
  rw [ha]
  show _ = nI (_ &&& 63)
  simp only [hb, hc, hd]
theorem bc_ok {m : Nat} (h : m < 2 ^ 24) (hp : popc m 24 ≤ 4) : bcE (iI (m : Int)) = iI (popc m 24) := by
  have e : bcN m = popc m 24 := by
    have hz : m = 0 + m := by omega
    have : popc m 24 = 0 ∨ popc m 24 = 1 ∨ popc m 24 = 2 ∨ popc m 24 = 3 ∨ popc m 24 = 4 := by omega
    rcases this with q | q | q | q | q <;> rw [q] <;> rw [hz]
    · exact chkB_ok 0 24 0 0 chkB_0 m h q
    · exact chkB_ok 1 24 1 0 chkB_1 m h q
    · exact chkB_ok 2 24 2 0 chkB_2 m h q
    · exact chkB_ok 3 24 3 0 chkB_3 m h q
    · exact chkB_ok 4 24 4 0 chkB_4 m h q
  rw [show iI (m : Int) = nI m from rfl, bcE_n h, e]
  rfl
theorem sh1_all : ∀ b, b < 24 → (iI 1 <<< (iI (b : Nat) &&& 31)) = iI ((2 ^ b : Nat) : Int) := by decide +kernel
theorem shs_all : ∀ b, b < 24 → ((iI (b : Nat) &&& 31).toBitVec.smod 32).toNat = b := by decide +kernel
theorem and_0 {m b : Nat} (hb : b < 24) : (iI (m : Int) &&& iI ((2 ^ b : Nat) : Int)) = 0 ↔ m.testBit b = false := fa_bit (n := m) (j := b) (by omega)
theorem or_i (a b : Nat) : (iI (a : Int) ||| iI (b : Int)) = iI ((a ||| b : Nat) : Int) := fa_or a b
theorem shr_bit {m b : Nat} (hm : m < 2 ^ 24) (hb : b < 24) : ((iI (m : Int) >>> (iI (b : Nat) &&& 31)) &&& iI 1) = 0 ↔ m.testBit b = false := by
  have e1 : iI (m : Int) >>> (iI (b : Nat) &&& 31) = nI (m / 2 ^ b) := pk_shrN (n := m) (by omega) _ b (shs_all b hb)
  have e2 : nI (m / 2 ^ b) &&& nI 1 = nI ((m / 2 ^ b) &&& 1) := fa_and _ _
  rw [e1, show iI 1 = nI 1 from rfl, e2, Nat.and_one_is_mod, show (0 : Int32) = nI 0 from rfl, nI_eq (by omega) (by omega), Nat.testBit_eq_decide_div_mod_eq]
  simp
theorem popc_or {m b : Nat} (hb : m.testBit b = false) : ∀ i, popc (m ||| 2 ^ b) i = popc m i + (if b < i then 1 else 0)
  | 0 => by simp [popc, cntN]
  | i + 1 => by
    have e : (m ||| 2 ^ b).testBit i = (m.testBit i || decide (b = i)) := by
      rw [Nat.testBit_or, Nat.testBit_two_pow]
    rw [popc_s, popc_s, popc_or hb i]
    simp only [e]
    by_cases h : b = i
    · subst h
      simp [hb]
    · by_cases h2 : b < i
      · simp [h, h2, show b < i + 1 by omega]; omega
      · simp [h, h2, show ¬ b < i + 1 by omega]
