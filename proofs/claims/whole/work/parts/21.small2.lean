/-! ===== more small methods of the class ===== -/
def anyN (p : Nat → Bool) : Nat → Bool
  | 0 => false
  | n + 1 => anyN p n || p n
theorem anyN_iff (p : Nat → Bool) : ∀ n, anyN p n = true ↔ ∃ k, k < n ∧ p k = true
  | 0 => by simp [anyN]
  | n + 1 => by
    simp only [anyN, Bool.or_eq_true, anyN_iff p n]
    constructor
    · rintro (⟨k, h1, h2⟩ | h)
      · exact ⟨k, by omega, h2⟩
      · exact ⟨n, by omega, h⟩
    · rintro ⟨k, h1, h2⟩
      by_cases e : k = n
      · subst e; exact Or.inr h2
      · exact Or.inl ⟨k, by omega, h2⟩
def cntN (p : Nat → Bool) : Nat → Nat
  | 0 => 0
  | n + 1 => cntN p n + (if p n = true then 1 else 0)
theorem cntN_le (p : Nat → Bool) : ∀ n, cntN p n ≤ n
  | 0 => Nat.le_refl 0
  | n + 1 => by
    have := cntN_le p n
    simp only [cntN]
    split <;> omega
theorem anyN_mono {p : Nat → Bool} {a b : Nat} (h : a ≤ b) (ha : anyN p a = true) : anyN p b = true := by
  obtain ⟨k, h1, h2⟩ := (anyN_iff p a).mp ha
  exact (anyN_iff p b).mpr ⟨k, by omega, h2⟩
/-- the d-th byte from below of a number, as a byte holds it -/
def bv (a : Int) (d : Nat) : Int := (vp_nar .byte ((iI a >>> (iI (8 * (d : Int)) &&& 31)).toInt8.toInt32)).toInt
def addN (a : Int) : Nat → wJn → wJn
  | 0, J => J
  | d + 1, J => addN a d (up2 (up2 J 2 (J 1 1).toNat (bv a d)) 1 1 (J 1 1 + 1))
section SMALL
variable {n : Nat} {K : wKd} {J : wJn} {L : wLn} {R : wRf}
theorem s_X10_tail (hy : Ly K R) {a b : Int} (ha : R32 a) (hb : R32 b) : S_X10_tail [.ref 0, .int (iI a), .int (iI b)] n K (zw J) L R (Det (some (.int (iI (if 0 ≤ a ∧ a < 24 ∧ 1 ≤ b ∧ b ≤ 60 then J 16 a.toNat else -1)))) n K (zw (if 0 ≤ a ∧ a < 24 ∧ 1 ≤ b ∧ b ≤ 60 then up2 J 16 a.toNat b else J)) L R) := by
  refine Sp_intro [some (.ref 0), some (.int (iI a)), some (.int (iI b)), none] rfl rfl (Nat.le_of_ble_eq_true rfl) rfl ?_
  intro Γ C
  replace C : C_X10_tail Γ := C
  refine w_iload_n (pc2 := 1) C dX10_tail_0 rfl rfl ?_
  -- at 1: .invokestatic 139
  refine w_cSi (pc2 := 4)  C dX10_tail_1 mb_X10_139 ms_X10_isBell (s_X10_isBell ha) rfl rfl (Nat.le_of_ble_eq_true rfl) ⟨by decide, by decide⟩ ⟨rfl, rfl⟩ ⟨by decide, by decide⟩ rfl ?_
  -- at 4: .ifCond .eq 14
  refine z_if_eq (pc2 := 7) (tgt := 18) C dX10_tail_4 (by decide) rfl (by split <;> omega) (fun h1 => ?_) (fun h1 => ?_)
  · have h2 : ¬ (0 ≤ a ∧ a < 24) := by
      intro q
      rw [if_pos q] at h1; exact absurd h1 (by decide)
    refine w_iconst (pc2 := 19) (v := iI (-1)) C dX10_tail_18 (by decide) rfl ?_
    -- at 19: .ireturn
    exact w_iret C dX10_tail_19 (by decide) (by decide) (DetI (by rw [if_neg (by omega)]) (by rw [if_neg (by omega)]))
  · have h2 : 0 ≤ a ∧ a < 24 := by
      rcases Decidable.em (0 ≤ a ∧ a < 24) with q | q
      · exact q
      · rw [if_neg q] at h1; exact absurd rfl h1
    refine w_iload_n (pc2 := 8) C dX10_tail_7 rfl rfl ?_
    refine w_iconst (pc2 := 9) (v := iI 1) C dX10_tail_8 (by decide) rfl ?_
    -- at 9: .if_icmp .lt 9
    refine z_icmp_lt (pc2 := 12) (tgt := 18) C dX10_tail_9 (by decide) rfl (by omega) (by omega) (fun h3 => ?_) (fun h3 => ?_)
    · skip
      refine w_iconst (pc2 := 19) (v := iI (-1)) C dX10_tail_18 (by decide) rfl ?_
      -- at 19: .ireturn
      exact w_iret C dX10_tail_19 (by decide) (by decide) (DetI (by rw [if_neg (by omega)]) (by rw [if_neg (by omega)]))
    · skip
      refine w_iload_n (pc2 := 13) C dX10_tail_12 rfl rfl ?_
      refine w_bipush (pc2 := 15) (v := iI 60) C dX10_tail_13 (by decide) rfl ?_
      -- at 15: .if_icmp .le 5
      refine z_icmp_le (pc2 := 18) (tgt := 20) C dX10_tail_15 (by decide) rfl (by omega) (by omega) (fun h4 => ?_) (fun h4 => ?_)
      · skip
        refine w_aload_n (pc2 := 21) C dX10_tail_20 rfl rfl ?_
        refine w_getR (pc2 := 24) C dX10_tail_21 fl_X10_28 (by first | exact hy.k _ | assumption) (by first | exact hy.r _ _ | assumption) rfl ?_
        refine w_getR (pc2 := 27) C dX10_tail_24 fl_X10_142 (by first | exact hy.k _ | assumption) (by first | exact hy.r _ _ | assumption) rfl ?_
        refine w_getR (pc2 := 30) C dX10_tail_27 fl_X10_146 (by first | exact hy.k _ | assumption) (by first | exact hy.r _ _ | assumption) rfl ?_
        refine w_iload_n (pc2 := 31) C dX10_tail_30 rfl rfl ?_
        -- at 31: .iaload
        refine z_iald (pc2 := 32) (j := a.toNat) C dX10_tail_31 (by first | exact hy.k _ | assumption) (by omega) (by omega) (by decide) rfl ?_
        refine w_istore_n (pc2 := 33) C dX10_tail_32 rfl (by decide) rfl rfl ?_
        try dsimp only [List.set]
        refine w_aload_n (pc2 := 34) C dX10_tail_33 rfl rfl ?_
        refine w_getR (pc2 := 37) C dX10_tail_34 fl_X10_28 (by first | exact hy.k _ | assumption) (by first | exact hy.r _ _ | assumption) rfl ?_
        refine w_getR (pc2 := 40) C dX10_tail_37 fl_X10_142 (by first | exact hy.k _ | assumption) (by first | exact hy.r _ _ | assumption) rfl ?_
        refine w_getR (pc2 := 43) C dX10_tail_40 fl_X10_146 (by first | exact hy.k _ | assumption) (by first | exact hy.r _ _ | assumption) rfl ?_
        refine w_iload_n (pc2 := 44) C dX10_tail_43 rfl rfl ?_
        refine w_iload_n (pc2 := 45) C dX10_tail_44 rfl rfl ?_
        -- at 45: .iastore
        refine z_iast (pc2 := 46) (j := a.toNat) C dX10_tail_45 (by first | exact hy.k _ | assumption) (by omega) (by omega) (by decide) rfl ?_
        refine w_iload_n (pc2 := 47) C dX10_tail_46 rfl rfl ?_
        -- at 47: .ireturn
        exact w_iret C dX10_tail_47 (by decide) (by decide) (DetI (by rw [if_pos (by omega)]) (by rw [if_pos (by omega)]))
      · skip
        refine w_iconst (pc2 := 19) (v := iI (-1)) C dX10_tail_18 (by decide) rfl ?_
        -- at 19: .ireturn
        exact w_iret C dX10_tail_19 (by decide) (by decide) (DetI (by rw [if_neg (by omega)]) (by rw [if_neg (by omega)]))
theorem s_X10_quarrel (hy : Ly K R) {a : Int} (ha : R32 a) : S_X10_quarrel [.ref 0, .int (iI a)] n K (zw J) L R (Det (some (.int (iI (if 0 ≤ a ∧ a ≤ 4095 then J 15 1 else -1)))) n K (zw (if 0 ≤ a ∧ a ≤ 4095 then up2 J 15 1 a else J)) L R) := by
  refine Sp_intro [some (.ref 0), some (.int (iI a)), none] rfl rfl (Nat.le_of_ble_eq_true rfl) rfl ?_
  intro Γ C
  replace C : C_X10_quarrel Γ := C
  refine w_iload_n (pc2 := 1) C dX10_quarrel_0 rfl rfl ?_
  -- at 1: .ifCond .lt 10
  refine z_if_lt (pc2 := 4) (tgt := 11) C dX10_quarrel_1 (by decide) rfl (by omega) (fun h1 => ?_) (fun h1 => ?_)
  · skip
    refine w_iconst (pc2 := 12) (v := iI (-1)) C dX10_quarrel_11 (by decide) rfl ?_
    -- at 12: .ireturn
    exact w_iret C dX10_quarrel_12 (by decide) (by decide) (DetI (by rw [if_neg (by omega)]) (by rw [if_neg (by omega)]))
  · skip
    refine w_iload_n (pc2 := 5) C dX10_quarrel_4 rfl rfl ?_
    refine w_sipush (pc2 := 8) (v := iI 4095) C dX10_quarrel_5 (by decide) rfl ?_
    -- at 8: .if_icmp .le 5
    refine z_icmp_le (pc2 := 11) (tgt := 13) C dX10_quarrel_8 (by decide) rfl (by omega) (by omega) (fun h2 => ?_) (fun h2 => ?_)
    · skip
      refine w_aload_n (pc2 := 14) C dX10_quarrel_13 rfl rfl ?_
      refine w_getR (pc2 := 17) C dX10_quarrel_14 fl_X10_28 (by first | exact hy.k _ | assumption) (by first | exact hy.r _ _ | assumption) rfl ?_
      refine w_getR (pc2 := 20) C dX10_quarrel_17 fl_X10_142 (by first | exact hy.k _ | assumption) (by first | exact hy.r _ _ | assumption) rfl ?_
      refine z_getI (pc2 := 23) C dX10_quarrel_20 fl_X10_151 (by first | exact hy.k _ | assumption) rfl ?_
      refine w_istore_n (pc2 := 24) C dX10_quarrel_23 rfl (by decide) rfl rfl ?_
      try dsimp only [List.set]
      refine w_aload_n (pc2 := 25) C dX10_quarrel_24 rfl rfl ?_
      refine w_getR (pc2 := 28) C dX10_quarrel_25 fl_X10_28 (by first | exact hy.k _ | assumption) (by first | exact hy.r _ _ | assumption) rfl ?_
      refine w_getR (pc2 := 31) C dX10_quarrel_28 fl_X10_142 (by first | exact hy.k _ | assumption) (by first | exact hy.r _ _ | assumption) rfl ?_
      refine w_iload_n (pc2 := 32) C dX10_quarrel_31 rfl rfl ?_
      refine z_putI (pc2 := 35) C dX10_quarrel_32 fl_X10_151 (by first | exact hy.k _ | assumption) (by rfl) (by rfl) rfl ?_
      refine w_iload_n (pc2 := 36) C dX10_quarrel_35 rfl rfl ?_
      -- at 36: .ireturn
      exact w_iret C dX10_quarrel_36 (by decide) (by decide) (DetI (by rw [if_pos (by omega)]) (by rw [if_pos (by omega)]))
    · skip
      refine w_iconst (pc2 := 12) (v := iI (-1)) C dX10_quarrel_11 (by decide) rfl ?_
      -- at 12: .ireturn
      exact w_iret C dX10_quarrel_12 (by decide) (by decide) (DetI (by rw [if_neg (by omega)]) (by rw [if_neg (by omega)]))
theorem s_X1_renew (hy : Ly K R) {a : Int} : S_X1_renew [.ref 18, .int (iI a)] n K (zw J) L R (Det none n K (zw (up2 (up2 (up2 J 18 3 a) 18 2 0) 18 4 (-1))) L R) := by
  refine Sp_intro [some (.ref 18), some (.int (iI a))] rfl rfl (Nat.le_of_ble_eq_true rfl) rfl ?_
  intro Γ C
  replace C : C_X1_renew Γ := C
  refine w_aload_n (pc2 := 1) C dX1_renew_0 rfl rfl ?_
  refine w_iload_n (pc2 := 2) C dX1_renew_1 rfl rfl ?_
  refine z_putI (pc2 := 5) C dX1_renew_2 fl_X1_22 (by first | exact hy.k _ | assumption) (by rfl) (by rfl) rfl ?_
  refine w_aload_n (pc2 := 6) C dX1_renew_5 rfl rfl ?_
  refine w_iconst (pc2 := 7) (v := iI 0) C dX1_renew_6 (by decide) rfl ?_
  refine z_putI (pc2 := 10) C dX1_renew_7 fl_X1_18 (by first | exact hy.k _ | assumption) (by rfl) (by rfl) rfl ?_
  refine w_aload_n (pc2 := 11) C dX1_renew_10 rfl rfl ?_
  refine w_iconst (pc2 := 12) (v := iI (-1)) C dX1_renew_11 (by decide) rfl ?_
  refine z_putI (pc2 := 15) C dX1_renew_12 fl_X1_25 (by first | exact hy.k _ | assumption) (by rfl) (by rfl) rfl ?_
  -- at 15: .return_
  exact w_ret C dX1_renew_15 (by decide) (by decide) (⟨rfl, rfl, rfl, rfl, rfl, rfl⟩)
theorem s_X10_drum (hy : Ly K R) {a : Int} (ha : R32 a) : S_X10_drum [.ref 0, .int (iI a)] n K (zw J) L R (Det (some (.int (iI (if 1 ≤ a ∧ a ≤ 2063 then 1 else 0)))) n K (zw (if 1 ≤ a ∧ a ≤ 2063 then up2 (up2 (up2 J 18 3 a) 18 2 0) 18 4 (-1) else J)) L R) := by
  refine Sp_intro [some (.ref 0), some (.int (iI a))] rfl rfl (Nat.le_of_ble_eq_true rfl) rfl ?_
  intro Γ C
  replace C : C_X10_drum Γ := C
  refine w_iload_n (pc2 := 1) C dX10_drum_0 rfl rfl ?_
  refine w_iconst (pc2 := 2) (v := iI 1) C dX10_drum_1 (by decide) rfl ?_
  -- at 2: .if_icmp .lt 10
  refine z_icmp_lt (pc2 := 5) (tgt := 12) C dX10_drum_2 (by decide) rfl (by omega) (by omega) (fun h1 => ?_) (fun h1 => ?_)
  · skip
    refine w_iconst (pc2 := 13) (v := iI 0) C dX10_drum_12 (by decide) rfl ?_
    -- at 13: .ireturn
    exact w_zret C dX10_drum_13 (Or.inl rfl) (by decide) (by decide) (DetI (by rw [if_neg (by omega)]) (by rw [if_neg (by omega)]))
  · skip
    refine w_iload_n (pc2 := 6) C dX10_drum_5 rfl rfl ?_
    refine w_sipush (pc2 := 9) (v := iI 2063) C dX10_drum_6 (by decide) rfl ?_
    -- at 9: .if_icmp .le 5
    refine z_icmp_le (pc2 := 12) (tgt := 14) C dX10_drum_9 (by decide) rfl (by omega) (by omega) (fun h2 => ?_) (fun h2 => ?_)
    · skip
      refine w_aload_n (pc2 := 15) C dX10_drum_14 rfl rfl ?_
      refine w_getR (pc2 := 18) C dX10_drum_15 fl_X10_28 (by first | exact hy.k _ | assumption) (by first | exact hy.r _ _ | assumption) rfl ?_
      refine w_getR (pc2 := 21) C dX10_drum_18 fl_X10_162 (by first | exact hy.k _ | assumption) (by first | exact hy.r _ _ | assumption) rfl ?_
      refine w_iload_n (pc2 := 22) C dX10_drum_21 rfl rfl ?_
      -- at 22: .invokevirtual 166
      refine w_cVv (pc2 := 25)  C dX10_drum_22 mb_X10_166 mv_X1_renew (s_X1_renew hy) (by first | exact hy.k _ | assumption) rfl (by decide) rfl rfl (Nat.le_of_ble_eq_true rfl) ⟨by decide, by decide⟩ ⟨rfl, rfl⟩ ⟨by decide, by decide⟩ rfl ?_
      refine w_iconst (pc2 := 26) (v := iI 1) C dX10_drum_25 (by decide) rfl ?_
      -- at 26: .ireturn
      exact w_zret C dX10_drum_26 (Or.inr rfl) (by decide) (by decide) (DetI (by rw [if_pos (by omega)]) (by rw [if_pos (by omega)]))
    · skip
      refine w_iconst (pc2 := 13) (v := iI 0) C dX10_drum_12 (by decide) rfl ?_
      -- at 13: .ireturn
      exact w_zret C dX10_drum_13 (Or.inl rfl) (by decide) (by decide) (DetI (by rw [if_neg (by omega)]) (by rw [if_neg (by omega)]))
theorem s_X10_turn (hy : Ly K R) : S_X10_turn [.ref 0] n K (zw J) L R (Det (some (.int (iI (J 18 4)))) n K (zw J) L R) := by
  refine Sp_intro [some (.ref 0)] rfl rfl (Nat.le_of_ble_eq_true rfl) rfl ?_
  intro Γ C
  replace C : C_X10_turn Γ := C
  refine w_aload_n (pc2 := 1) C dX10_turn_0 rfl rfl ?_
  refine w_getR (pc2 := 4) C dX10_turn_1 fl_X10_28 (by first | exact hy.k _ | assumption) (by first | exact hy.r _ _ | assumption) rfl ?_
  refine w_getR (pc2 := 7) C dX10_turn_4 fl_X10_162 (by first | exact hy.k _ | assumption) (by first | exact hy.r _ _ | assumption) rfl ?_
  refine z_getI (pc2 := 10) C dX10_turn_7 fl_X10_189 (by first | exact hy.k _ | assumption) rfl ?_
  -- at 10: .ireturn
  exact w_iret C dX10_turn_10 (by decide) (by decide) (⟨rfl, rfl, rfl, rfl, rfl, rfl⟩)
theorem s_X10_pins (hy : Ly K R) : S_X10_pins [.ref 0] n K (zw J) L R (Det (some (.int (iI (J 18 2)))) n K (zw J) L R) := by
  refine Sp_intro [some (.ref 0)] rfl rfl (Nat.le_of_ble_eq_true rfl) rfl ?_
  intro Γ C
  replace C : C_X10_pins Γ := C
  refine w_aload_n (pc2 := 1) C dX10_pins_0 rfl rfl ?_
  refine w_getR (pc2 := 4) C dX10_pins_1 fl_X10_28 (by first | exact hy.k _ | assumption) (by first | exact hy.r _ _ | assumption) rfl ?_
  refine w_getR (pc2 := 7) C dX10_pins_4 fl_X10_162 (by first | exact hy.k _ | assumption) (by first | exact hy.r _ _ | assumption) rfl ?_
  refine z_getI (pc2 := 10) C dX10_pins_7 fl_X10_199 (by first | exact hy.k _ | assumption) rfl ?_
  -- at 10: .ireturn
  exact w_iret C dX10_pins_10 (by decide) (by decide) (⟨rfl, rfl, rfl, rfl, rfl, rfl⟩)
/-- whether a step and a BELL have a pin -/
def pinB (J : wJn) (a b : Int) : Nat → Bool := fun p => decide (J 19 p = a ∧ J 20 p = b)
theorem s_X1_hasPin (hy : Ly K R) {a b : Int} {m : Nat} (ha : R32 a) (hb : R32 b) (hm : J 18 2 = m) (hm2 : m ≤ 100) (hJ : ∀ p, p < m → R32 (J 19 p) ∧ R32 (J 20 p)) : S_X1_hasPin [.ref 18, .int (iI a), .int (iI b)] n K (zw J) L R (Det (some (.int (iI (if anyN (pinB J a b) m = true then 1 else 0)))) n K (zw J) L R) := by
  refine Sp_intro [some (.ref 18), some (.int (iI a)), some (.int (iI b)), none] rfl rfl (Nat.le_of_ble_eq_true rfl) rfl ?_
  intro Γ C
  replace C : C_X1_hasPin Γ := C
  have key : ∀ (d j : Nat), j + d = m → anyN (pinB J a b) j = false → wp Γ 0 0 (QQ Γ (Det (some (.int (iI (if anyN (pinB J a b) m = true then 1 else 0)))) n K (zw J) L R)) 2 [some (.ref 18), some (.int (iI a)), some (.int (iI b)), some (.int (iI j))] [] n K (zw J) L R := by
    intro d
    induction d with
    | zero =>
      intro j hj hn
      refine w_iload_n (pc2 := 3) C dX1_hasPin_2 rfl rfl ?_
      refine w_aload_n (pc2 := 4) C dX1_hasPin_3 rfl rfl ?_
      refine z_getI (pc2 := 7) C dX1_hasPin_4 fl_X1_18 (by first | exact hy.k _ | assumption) rfl ?_
      -- at 7: .if_icmp .ge 31
      refine z_icmp_ge (pc2 := 10) (tgt := 38) C dX1_hasPin_7 (by decide) rfl (by omega) (by omega) (fun h1 => ?_) (fun h1 => ?_)
      · skip
        refine w_iconst (pc2 := 39) (v := iI 0) C dX1_hasPin_38 (by decide) rfl ?_
        -- at 39: .ireturn
        exact w_zret C dX1_hasPin_39 (Or.inl rfl) (by decide) (by decide) (DetI (by rw [show m = j by omega, hn]; rfl) rfl)
      · exact absurd hj (by omega)
    | succ d ih =>
      intro j hj hn
      have hJj := hJ j (by omega)
      refine w_iload_n (pc2 := 3) C dX1_hasPin_2 rfl rfl ?_
      refine w_aload_n (pc2 := 4) C dX1_hasPin_3 rfl rfl ?_
      refine z_getI (pc2 := 7) C dX1_hasPin_4 fl_X1_18 (by first | exact hy.k _ | assumption) rfl ?_
      -- at 7: .if_icmp .ge 31
      refine z_icmp_ge (pc2 := 10) (tgt := 38) C dX1_hasPin_7 (by decide) rfl (by omega) (by omega) (fun h1 => ?_) (fun h1 => ?_)
      · exact absurd hj (by omega)
      · skip
        refine w_aload_n (pc2 := 11) C dX1_hasPin_10 rfl rfl ?_
        refine w_getR (pc2 := 14) C dX1_hasPin_11 fl_X1_9 (by first | exact hy.k _ | assumption) (by first | exact hy.r _ _ | assumption) rfl ?_
        refine w_iload_n (pc2 := 15) C dX1_hasPin_14 rfl rfl ?_
        -- at 15: .iaload
        refine z_iald (pc2 := 16) (j := j) C dX1_hasPin_15 (by first | exact hy.k _ | assumption) (by omega) (by omega) (by decide) rfl ?_
        refine w_iload_n (pc2 := 17) C dX1_hasPin_16 rfl rfl ?_
        -- at 17: .if_icmp .ne 15
        refine z_icmp_ne (pc2 := 20) (tgt := 32) C dX1_hasPin_17 (by decide) rfl (by omega) (by omega) (fun h2 => ?_) (fun h2 => ?_)
        · skip
          refine w_iinc (pc2 := 35) C dX1_hasPin_32 rfl (iI_add _ _) rfl (by decide) rfl rfl ?_
          try dsimp only [List.set]
          refine w_goto (tgt := 2) C dX1_hasPin_35 (by decide) ?_
          -- at 2: .iload_n 3
          exact ih (j + 1) (by omega) (by simp [anyN, hn, pinB, h2])
        · skip
          refine w_aload_n (pc2 := 21) C dX1_hasPin_20 rfl rfl ?_
          refine w_getR (pc2 := 24) C dX1_hasPin_21 fl_X1_15 (by first | exact hy.k _ | assumption) (by first | exact hy.r _ _ | assumption) rfl ?_
          refine w_iload_n (pc2 := 25) C dX1_hasPin_24 rfl rfl ?_
          -- at 25: .iaload
          refine z_iald (pc2 := 26) (j := j) C dX1_hasPin_25 (by first | exact hy.k _ | assumption) (by omega) (by omega) (by decide) rfl ?_
          refine w_iload_n (pc2 := 27) C dX1_hasPin_26 rfl rfl ?_
          -- at 27: .if_icmp .ne 5
          refine z_icmp_ne (pc2 := 30) (tgt := 32) C dX1_hasPin_27 (by decide) rfl (by omega) (by omega) (fun h3 => ?_) (fun h3 => ?_)
          · skip
            refine w_iinc (pc2 := 35) C dX1_hasPin_32 rfl (iI_add _ _) rfl (by decide) rfl rfl ?_
            try dsimp only [List.set]
            refine w_goto (tgt := 2) C dX1_hasPin_35 (by decide) ?_
            -- at 2: .iload_n 3
            exact ih (j + 1) (by omega) (by simp [anyN, hn, pinB, h3])
          · skip
            refine w_iconst (pc2 := 31) (v := iI 1) C dX1_hasPin_30 (by decide) rfl ?_
            -- at 31: .ireturn
            exact w_zret C dX1_hasPin_31 (Or.inr rfl) (by decide) (by decide) (DetI (by rw [if_pos ((anyN_iff _ m).mpr ⟨j, by omega, by simp [pinB, h2, h3]⟩)]) rfl)
  refine w_iconst (pc2 := 1) (v := iI 0) C dX1_hasPin_0 (by decide) rfl ?_
  refine w_istore_n (pc2 := 2) C dX1_hasPin_1 rfl (by decide) rfl rfl ?_
  try dsimp only [List.set]
  -- at 2: .iload_n 3
  exact key m 0 (by omega) rfl
theorem s_X10_pin (hy : Ly K R) {a b : Int} {m : Nat} (ha : R32 a) (hb : R32 b) (hs : R32 (J 18 3)) (hm : J 18 2 = m) (hm2 : m ≤ 100) (hJ : ∀ p, p < m → R32 (J 19 p) ∧ R32 (J 20 p)) : S_X10_pin [.ref 0, .int (iI a), .int (iI b)] n K (zw J) L R (Det (some (.int (iI (if 0 ≤ a ∧ a < J 18 3 ∧ 0 ≤ b ∧ b < 24 then (if anyN (pinB J a b) m = true then 1 else 0) else -1)))) n K (zw J) L R) := by
  refine Sp_intro [some (.ref 0), some (.int (iI a)), some (.int (iI b))] rfl rfl (Nat.le_of_ble_eq_true rfl) rfl ?_
  intro Γ C
  replace C : C_X10_pin Γ := C
  refine w_iload_n (pc2 := 1) C dX10_pin_0 rfl rfl ?_
  -- at 1: .ifCond .lt 24
  refine z_if_lt (pc2 := 4) (tgt := 25) C dX10_pin_1 (by decide) rfl (by omega) (fun h1 => ?_) (fun h1 => ?_)
  · skip
    refine w_iconst (pc2 := 26) (v := iI (-1)) C dX10_pin_25 (by decide) rfl ?_
    -- at 26: .ireturn
    exact w_iret C dX10_pin_26 (by decide) (by decide) (DetI (by rw [if_neg (by omega)]) rfl)
  · skip
    refine w_iload_n (pc2 := 5) C dX10_pin_4 rfl rfl ?_
    refine w_aload_n (pc2 := 6) C dX10_pin_5 rfl rfl ?_
    refine w_getR (pc2 := 9) C dX10_pin_6 fl_X10_28 (by first | exact hy.k _ | assumption) (by first | exact hy.r _ _ | assumption) rfl ?_
    refine w_getR (pc2 := 12) C dX10_pin_9 fl_X10_162 (by first | exact hy.k _ | assumption) (by first | exact hy.r _ _ | assumption) rfl ?_
    refine z_getI (pc2 := 15) C dX10_pin_12 fl_X10_192 (by first | exact hy.k _ | assumption) rfl ?_
    -- at 15: .if_icmp .ge 10
    refine z_icmp_ge (pc2 := 18) (tgt := 25) C dX10_pin_15 (by decide) rfl (by omega) (by omega) (fun h2 => ?_) (fun h2 => ?_)
    · skip
      refine w_iconst (pc2 := 26) (v := iI (-1)) C dX10_pin_25 (by decide) rfl ?_
      -- at 26: .ireturn
      exact w_iret C dX10_pin_26 (by decide) (by decide) (DetI (by rw [if_neg (by omega)]) rfl)
    · skip
      refine w_iload_n (pc2 := 19) C dX10_pin_18 rfl rfl ?_
      -- at 19: .invokestatic 139
      refine w_cSi (pc2 := 22)  C dX10_pin_19 mb_X10_139 ms_X10_isBell (s_X10_isBell hb) rfl rfl (Nat.le_of_ble_eq_true rfl) ⟨by decide, by decide⟩ ⟨rfl, rfl⟩ ⟨by decide, by decide⟩ rfl ?_
      -- at 22: .ifCond .ne 5
      refine z_if_ne (pc2 := 25) (tgt := 27) C dX10_pin_22 (by decide) rfl (by split <;> omega) (fun h3 => ?_) (fun h3 => ?_)
      · have h4 : 0 ≤ b ∧ b < 24 := by
          rcases Decidable.em (0 ≤ b ∧ b < 24) with q | q
          · exact q
          · rw [if_neg q] at h3; exact absurd rfl h3
        refine w_aload_n (pc2 := 28) C dX10_pin_27 rfl rfl ?_
        refine w_getR (pc2 := 31) C dX10_pin_28 fl_X10_28 (by first | exact hy.k _ | assumption) (by first | exact hy.r _ _ | assumption) rfl ?_
        refine w_getR (pc2 := 34) C dX10_pin_31 fl_X10_162 (by first | exact hy.k _ | assumption) (by first | exact hy.r _ _ | assumption) rfl ?_
        refine w_iload_n (pc2 := 35) C dX10_pin_34 rfl rfl ?_
        refine w_iload_n (pc2 := 36) C dX10_pin_35 rfl rfl ?_
        -- at 36: .invokevirtual 195
        refine w_cVi (pc2 := 39)  C dX10_pin_36 mb_X10_195 mv_X1_hasPin (s_X1_hasPin hy ha hb hm hm2 hJ) (by first | exact hy.k _ | assumption) rfl (by decide) rfl rfl (Nat.le_of_ble_eq_true rfl) ⟨by decide, by decide⟩ ⟨rfl, rfl⟩ ⟨by decide, by decide⟩ rfl ?_
        -- at 39: .ifCond .eq 7
        refine z_if_eq (pc2 := 42) (tgt := 46) C dX10_pin_39 (by decide) rfl (by split <;> omega) (fun h5 => ?_) (fun h5 => ?_)
        · have h6 : ¬ anyN (pinB J a b) m = true := fun q => by rw [if_pos q] at h5; exact absurd h5 (by decide)
          refine w_iconst (pc2 := 47) (v := iI 0) C dX10_pin_46 (by decide) rfl ?_
          -- at 47: .ireturn
          exact w_iret C dX10_pin_47 (by decide) (by decide) (DetI (by rw [if_pos (by omega), if_neg h6]) rfl)
        · have h6 : anyN (pinB J a b) m = true := by
            rcases Decidable.em (anyN (pinB J a b) m = true) with q | q
            · exact q
            · rw [if_neg q] at h5; exact absurd rfl h5
          refine w_iconst (pc2 := 43) (v := iI 1) C dX10_pin_42 (by decide) rfl ?_
          refine w_goto (tgt := 47) C dX10_pin_43 (by decide) ?_
          -- at 47: .ireturn
          exact w_iret C dX10_pin_47 (by decide) (by decide) (DetI (by rw [if_pos (by omega), if_pos h6]) rfl)
      · have h4 : ¬ (0 ≤ b ∧ b < 24) := by
          intro q
          rw [if_pos q] at h3; exact absurd h3 (by decide)
        refine w_iconst (pc2 := 26) (v := iI (-1)) C dX10_pin_25 (by decide) rfl ?_
        -- at 26: .ireturn
        exact w_iret C dX10_pin_26 (by decide) (by decide) (DetI (by rw [if_neg (by omega)]) rfl)
theorem DetL {r r2 : Option Value} {n : Nat} {K : wKd} {I I2 : wIn} {L L2 : wLn} {R : wRf} (h1 : r = r2) (h2 : I = I2) (h3 : L = L2) : Det r2 n K I2 L2 R r n K I L R := ⟨h1, rfl, rfl, h2, h3, rfl⟩
theorem s_X10_strikes (hy : Ly K R) {a : Int} (ha : R32 a) : S_X10_strikes [.ref 0, .int (iI a)] n K (zw J) L R (Det (some (.long (if 0 ≤ a ∧ a < 24 then L 22 a.toNat else -1))) n K (zw J) L R) := by
  refine Sp_intro [some (.ref 0), some (.int (iI a))] rfl rfl (Nat.le_of_ble_eq_true rfl) rfl ?_
  intro Γ C
  replace C : C_X10_strikes Γ := C
  refine w_iload_n (pc2 := 1) C dX10_strikes_0 rfl rfl ?_
  -- at 1: .invokestatic 139
  refine w_cSi (pc2 := 4)  C dX10_strikes_1 mb_X10_139 ms_X10_isBell (s_X10_isBell ha) rfl rfl (Nat.le_of_ble_eq_true rfl) ⟨by decide, by decide⟩ ⟨rfl, rfl⟩ ⟨by decide, by decide⟩ rfl ?_
  -- at 4: .ifCond .ne 7
  refine z_if_ne (pc2 := 7) (tgt := 11) C dX10_strikes_4 (by decide) rfl (by split <;> omega) (fun h1 => ?_) (fun h1 => ?_)
  · have h2 : 0 ≤ a ∧ a < 24 := by
      rcases Decidable.em (0 ≤ a ∧ a < 24) with q | q
      · exact q
      · rw [if_neg q] at h1; exact absurd rfl h1
    refine w_aload_n (pc2 := 12) C dX10_strikes_11 rfl rfl ?_
    refine w_getR (pc2 := 15) C dX10_strikes_12 fl_X10_28 (by first | exact hy.k _ | assumption) (by first | exact hy.r _ _ | assumption) rfl ?_
    refine w_getR (pc2 := 18) C dX10_strikes_15 fl_X10_200 (by first | exact hy.k _ | assumption) (by first | exact hy.r _ _ | assumption) rfl ?_
    refine w_getR (pc2 := 21) C dX10_strikes_18 fl_X10_216 (by first | exact hy.k _ | assumption) (by first | exact hy.r _ _ | assumption) rfl ?_
    refine w_iload_n (pc2 := 22) C dX10_strikes_21 rfl rfl ?_
    -- at 22: .laload
    refine z_lald (pc2 := 23) (j := a.toNat) C dX10_strikes_22 (by first | exact hy.k _ | assumption) (by omega) (by omega) (by decide) rfl ?_
    exact w_lret C dX10_strikes_23 (by decide) (by decide) (DetI (by rw [if_pos h2]) rfl)
  · have h2 : ¬ (0 ≤ a ∧ a < 24) := by
      intro q
      rw [if_pos q] at h1; exact absurd h1 (by decide)
    refine w_ldc2 (pc2 := 10) C dX10_strikes_7 kl_X10_214 rfl ?_
    -- at 10: .lreturn
    exact w_lret C dX10_strikes_10 (by decide) (by decide) (DetI (by rw [if_neg h2]) rfl)
theorem s_X10_mend (hy : Ly K R) {a : Int} (ha : R32 a) : S_X10_mend [.ref 0, .int (iI a)] n K (zw J) L R (Det (some (.long (if 0 ≤ a ∧ a < 24 then L 22 a.toNat else -1))) n K (zw J) (if 0 ≤ a ∧ a < 24 then up2 L 22 a.toNat 0 else L) R) := by
  refine Sp_intro [some (.ref 0), some (.int (iI a)), none, none] rfl rfl (Nat.le_of_ble_eq_true rfl) rfl ?_
  intro Γ C
  replace C : C_X10_mend Γ := C
  refine w_iload_n (pc2 := 1) C dX10_mend_0 rfl rfl ?_
  -- at 1: .invokestatic 139
  refine w_cSi (pc2 := 4)  C dX10_mend_1 mb_X10_139 ms_X10_isBell (s_X10_isBell ha) rfl rfl (Nat.le_of_ble_eq_true rfl) ⟨by decide, by decide⟩ ⟨rfl, rfl⟩ ⟨by decide, by decide⟩ rfl ?_
  -- at 4: .ifCond .ne 7
  refine z_if_ne (pc2 := 7) (tgt := 11) C dX10_mend_4 (by decide) rfl (by split <;> omega) (fun h1 => ?_) (fun h1 => ?_)
  · have h2 : 0 ≤ a ∧ a < 24 := by
      rcases Decidable.em (0 ≤ a ∧ a < 24) with q | q
      · exact q
      · rw [if_neg q] at h1; exact absurd rfl h1
    refine w_aload_n (pc2 := 12) C dX10_mend_11 rfl rfl ?_
    refine w_getR (pc2 := 15) C dX10_mend_12 fl_X10_28 (by first | exact hy.k _ | assumption) (by first | exact hy.r _ _ | assumption) rfl ?_
    refine w_getR (pc2 := 18) C dX10_mend_15 fl_X10_200 (by first | exact hy.k _ | assumption) (by first | exact hy.r _ _ | assumption) rfl ?_
    refine w_getR (pc2 := 21) C dX10_mend_18 fl_X10_216 (by first | exact hy.k _ | assumption) (by first | exact hy.r _ _ | assumption) rfl ?_
    refine w_iload_n (pc2 := 22) C dX10_mend_21 rfl rfl ?_
    -- at 22: .laload
    refine z_lald (pc2 := 23) (j := a.toNat) C dX10_mend_22 (by first | exact hy.k _ | assumption) (by omega) (by omega) (by decide) rfl ?_
    refine w_lstore_n (pc2 := 24) C dX10_mend_23 rfl (by decide) rfl rfl ?_
    try dsimp only [List.set]
    refine w_aload_n (pc2 := 25) C dX10_mend_24 rfl rfl ?_
    refine w_getR (pc2 := 28) C dX10_mend_25 fl_X10_28 (by first | exact hy.k _ | assumption) (by first | exact hy.r _ _ | assumption) rfl ?_
    refine w_getR (pc2 := 31) C dX10_mend_28 fl_X10_200 (by first | exact hy.k _ | assumption) (by first | exact hy.r _ _ | assumption) rfl ?_
    refine w_getR (pc2 := 34) C dX10_mend_31 fl_X10_216 (by first | exact hy.k _ | assumption) (by first | exact hy.r _ _ | assumption) rfl ?_
    refine w_iload_n (pc2 := 35) C dX10_mend_34 rfl rfl ?_
    refine w_lconst (pc2 := 36) (v := 0) C dX10_mend_35 (by decide) rfl ?_
    -- at 36: .lastore
    refine z_last (pc2 := 37) (j := a.toNat) C dX10_mend_36 (by first | exact hy.k _ | assumption) (by omega) (by omega) (by decide) rfl ?_
    refine w_lload_n (pc2 := 38) C dX10_mend_37 rfl rfl ?_
    -- at 38: .lreturn
    exact w_lret C dX10_mend_38 (by decide) (by decide) (DetL (by rw [if_pos h2]) rfl (by rw [if_pos h2]))
  · have h2 : ¬ (0 ≤ a ∧ a < 24) := by
      intro q
      rw [if_pos q] at h1; exact absurd h1 (by decide)
    refine w_ldc2 (pc2 := 10) C dX10_mend_7 kl_X10_214 rfl ?_
    -- at 10: .lreturn
    exact w_lret C dX10_mend_10 (by decide) (by decide) (DetL (by rw [if_neg h2]) rfl (by rw [if_neg h2]))
def wornB (L : wLn) (i : Nat) (a : Int) : Nat → Bool := fun b => decide ((iI a).toInt64 ≤ L i b)
theorem s_X0_wornAt (hy : Ly K R) {a : Int} : S_X0_wornAt [.ref 21, .int (iI a)] n K (zw J) L R (Det (some (.int (iI (cntN (wornB L 22 a) 24)))) n K (zw J) L R) := by
  refine Sp_intro [some (.ref 21), some (.int (iI a)), none, none] rfl rfl (Nat.le_of_ble_eq_true rfl) rfl ?_
  intro Γ C
  replace C : C_X0_wornAt Γ := C
  have key : ∀ (d j : Nat), j + d = 24 → wp Γ 0 0 (QQ Γ (Det (some (.int (iI (cntN (wornB L 22 a) 24)))) n K (zw J) L R)) 4 [some (.ref 21), some (.int (iI a)), some (.int (iI (cntN (wornB L 22 a) j))), some (.int (iI j))] [] n K (zw J) L R := by
    intro d
    induction d with
    | zero =>
      intro j hj
      refine w_iload_n (pc2 := 5) C dX0_wornAt_4 rfl rfl ?_
      refine w_bipush (pc2 := 7) (v := iI 24) C dX0_wornAt_5 (by decide) rfl ?_
      -- at 7: .if_icmp .ge 24
      refine z_icmp_ge (pc2 := 10) (tgt := 31) C dX0_wornAt_7 (by decide) rfl (by omega) (by omega) (fun h1 => ?_) (fun h1 => ?_)
      · skip
        refine w_iload_n (pc2 := 32) C dX0_wornAt_31 rfl rfl ?_
        -- at 32: .ireturn
        exact w_iret C dX0_wornAt_32 (by decide) (by decide) (DetI (by rw [show j = 24 by omega]) rfl)
      · exact absurd hj (by omega)
    | succ d ih =>
      intro j hj
      have hc := cntN_le (wornB L 22 a) j
      refine w_iload_n (pc2 := 5) C dX0_wornAt_4 rfl rfl ?_
      refine w_bipush (pc2 := 7) (v := iI 24) C dX0_wornAt_5 (by decide) rfl ?_
      -- at 7: .if_icmp .ge 24
      refine z_icmp_ge (pc2 := 10) (tgt := 31) C dX0_wornAt_7 (by decide) rfl (by omega) (by omega) (fun h1 => ?_) (fun h1 => ?_)
      · exact absurd hj (by omega)
      · skip
        refine w_aload_n (pc2 := 11) C dX0_wornAt_10 rfl rfl ?_
        refine w_getR (pc2 := 14) C dX0_wornAt_11 fl_X0_9 (by first | exact hy.k _ | assumption) (by first | exact hy.r _ _ | assumption) rfl ?_
        refine w_iload_n (pc2 := 15) C dX0_wornAt_14 rfl rfl ?_
        -- at 15: .laload
        refine z_lald (pc2 := 16) (j := j) C dX0_wornAt_15 (by first | exact hy.k _ | assumption) (by omega) (by omega) (by decide) rfl ?_
        refine w_iload_n (pc2 := 17) C dX0_wornAt_16 rfl rfl ?_
        refine w_i2l (pc2 := 18) C dX0_wornAt_17 rfl ?_
        refine w_lcmp (pc2 := 19) C dX0_wornAt_18 rfl ?_
        -- at 19: .ifCond .lt 6
        rw [lg_cmp_lt0]
        refine z_if_lt (pc2 := 22) (tgt := 25) C dX0_wornAt_19 (by decide) rfl (by split <;> (try split) <;> omega) (fun h2 => ?_) (fun h2 => ?_)
        · have h3 : wornB L 22 a j = false := by
            simp only [wornB, decide_eq_false_iff_not, Int64.not_le]
            by_cases q : (iI a).toInt64 < L 22 j
            · rw [if_pos q] at h2; exact absurd h2 (by omega)
            · by_cases q2 : L 22 j = (iI a).toInt64
              · rw [if_neg q, if_pos q2] at h2; exact absurd h2 (by omega)
              · exact Int64.lt_iff_le_and_ne.mpr ⟨Int64.not_lt.mp q, q2⟩
          refine w_iinc (pc2 := 28) C dX0_wornAt_25 rfl (iI_add _ _) rfl (by decide) rfl rfl ?_
          try dsimp only [List.set]
          refine w_goto (tgt := 4) C dX0_wornAt_28 (by decide) ?_
          -- at 4: .iload_n 3
          have e : cntN (wornB L 22 a) (j + 1) = cntN (wornB L 22 a) j := by simp [cntN, h3]
          have := ih (j + 1) (by omega)
          rw [e] at this
          exact this
        · have h3 : wornB L 22 a j = true := by
            simp only [wornB, decide_eq_true_eq]
            by_cases q : (iI a).toInt64 < L 22 j
            · exact Int64.le_of_lt q
            · by_cases q2 : L 22 j = (iI a).toInt64
              · rw [q2]; exact Int64.le_refl _
              · rw [if_neg q, if_neg q2] at h2; exact absurd h2 (by omega)
          refine w_iinc (pc2 := 25) C dX0_wornAt_22 rfl (iI_add _ _) rfl (by decide) rfl rfl ?_
          try dsimp only [List.set]
          refine w_iinc (pc2 := 28) C dX0_wornAt_25 rfl (iI_add _ _) rfl (by decide) rfl rfl ?_
          try dsimp only [List.set]
          refine w_goto (tgt := 4) C dX0_wornAt_28 (by decide) ?_
          -- at 4: .iload_n 3
          have e : cntN (wornB L 22 a) (j + 1) = cntN (wornB L 22 a) j + 1 := by simp [cntN, h3]
          have := ih (j + 1) (by omega)
          rw [e] at this
          exact this
  refine w_iconst (pc2 := 1) (v := iI 0) C dX0_wornAt_0 (by decide) rfl ?_
  refine w_istore_n (pc2 := 2) C dX0_wornAt_1 rfl (by decide) rfl rfl ?_
  try dsimp only [List.set]
  refine w_iconst (pc2 := 3) (v := iI 0) C dX0_wornAt_2 (by decide) rfl ?_
  refine w_istore_n (pc2 := 4) C dX0_wornAt_3 rfl (by decide) rfl rfl ?_
  try dsimp only [List.set]
  -- at 4: .iload_n 3
  exact key 24 0 (by omega)
theorem s_X10_worn (hy : Ly K R) {a : Int} (ha : R32 a) : S_X10_worn [.ref 0, .int (iI a)] n K (zw J) L R (Det (some (.int (iI (if 1 ≤ a then (cntN (wornB L 22 a) 24 : Int) else -1)))) n K (zw J) L R) := by
  refine Sp_intro [some (.ref 0), some (.int (iI a))] rfl rfl (Nat.le_of_ble_eq_true rfl) rfl ?_
  intro Γ C
  replace C : C_X10_worn Γ := C
  refine w_iload_n (pc2 := 1) C dX10_worn_0 rfl rfl ?_
  refine w_iconst (pc2 := 2) (v := iI 1) C dX10_worn_1 (by decide) rfl ?_
  -- at 2: .if_icmp .ge 5
  refine z_icmp_ge (pc2 := 5) (tgt := 7) C dX10_worn_2 (by decide) rfl (by omega) (by omega) (fun h1 => ?_) (fun h1 => ?_)
  · skip
    refine w_aload_n (pc2 := 8) C dX10_worn_7 rfl rfl ?_
    refine w_getR (pc2 := 11) C dX10_worn_8 fl_X10_28 (by first | exact hy.k _ | assumption) (by first | exact hy.r _ _ | assumption) rfl ?_
    refine w_getR (pc2 := 14) C dX10_worn_11 fl_X10_200 (by first | exact hy.k _ | assumption) (by first | exact hy.r _ _ | assumption) rfl ?_
    refine w_iload_n (pc2 := 15) C dX10_worn_14 rfl rfl ?_
    -- at 15: .invokevirtual 220
    refine w_cVi (pc2 := 18)  C dX10_worn_15 mb_X10_220 mv_X0_wornAt (s_X0_wornAt hy) (by first | exact hy.k _ | assumption) rfl (by decide) rfl rfl (Nat.le_of_ble_eq_true rfl) ⟨by decide, by decide⟩ ⟨rfl, rfl⟩ ⟨by decide, by decide⟩ rfl ?_
    -- at 18: .ireturn
    exact w_iret C dX10_worn_18 (by decide) (by decide) (DetI (by rw [if_pos h1]) rfl)
  · skip
    refine w_iconst (pc2 := 6) (v := iI (-1)) C dX10_worn_5 (by decide) rfl ?_
    -- at 6: .ireturn
    exact w_iret C dX10_worn_6 (by decide) (by decide) (DetI (by rw [if_neg h1]) rfl)
theorem s_X7_addNumber (hy : Ly K R) {a : Int} (h0 : 0 ≤ J 1 1) (h1 : J 1 1 + 4 ≤ 1000) : S_X7_addNumber [.ref 1, .int (iI a)] n K (zw J) L R (Det none n K (zw (addN a 4 J)) L R) := by
  refine Sp_intro [some (.ref 1), some (.int (iI a)), none] rfl rfl (Nat.le_of_ble_eq_true rfl) rfl ?_
  intro Γ C
  replace C : C_X7_addNumber Γ := C
  have key : ∀ (d : Nat) (J : wJn), d ≤ 4 → 0 ≤ J 1 1 → J 1 1 + d ≤ 1000 → ∀ J2 : wJn, J2 = addN a d J → wp Γ 0 0 (QQ Γ (Det none n K (zw J2) L R)) 3 [some (.ref 1), some (.int (iI a)), some (.int (iI (8 * (d : Int) - 8)))] [] n K (zw J) L R := by
    intro d
    induction d with
    | zero =>
      intro J hd h0 h1 J2 e
      refine w_iload_n (pc2 := 4) C dX7_addNumber_3 rfl rfl ?_
      -- at 4: .ifCond .lt 42
      refine z_if_lt (pc2 := 7) (tgt := 46) C dX7_addNumber_4 (by decide) rfl (by omega) (fun h2 => ?_) (fun h2 => ?_)
      · skip
        exact w_ret C dX7_addNumber_46 (by decide) (by decide) (DetI rfl (by rw [e]; rfl))
      · exact absurd h2 (by omega)
    | succ d ih =>
      intro J hd h0 h1 J2 e
      refine w_iload_n (pc2 := 4) C dX7_addNumber_3 rfl rfl ?_
      -- at 4: .ifCond .lt 42
      refine z_if_lt (pc2 := 7) (tgt := 46) C dX7_addNumber_4 (by decide) rfl (by omega) (fun h2 => ?_) (fun h2 => ?_)
      · exact absurd h2 (by omega)
      · skip
        refine w_aload_n (pc2 := 8) C dX7_addNumber_7 rfl rfl ?_
        refine z_getI (pc2 := 11) C dX7_addNumber_8 fl_X7_15 (by first | exact hy.k _ | assumption) rfl ?_
        refine w_sipush (pc2 := 14) (v := iI 1000) C dX7_addNumber_11 (by decide) rfl ?_
        -- at 14: .if_icmp .ge 32
        refine z_icmp_ge (pc2 := 17) (tgt := 46) C dX7_addNumber_14 (by decide) rfl (by omega) (by omega) (fun h3 => ?_) (fun h3 => ?_)
        · exact absurd h3 (by omega)
        · skip
          refine w_aload_n (pc2 := 18) C dX7_addNumber_17 rfl rfl ?_
          refine w_getR (pc2 := 21) C dX7_addNumber_18 fl_X7_9 (by first | exact hy.k _ | assumption) (by first | exact hy.r _ _ | assumption) rfl ?_
          refine w_aload_n (pc2 := 22) C dX7_addNumber_21 rfl rfl ?_
          refine z_getI (pc2 := 25) C dX7_addNumber_22 fl_X7_15 (by first | exact hy.k _ | assumption) rfl ?_
          refine w_iload_n (pc2 := 26) C dX7_addNumber_25 rfl rfl ?_
          refine w_iload_n (pc2 := 27) C dX7_addNumber_26 rfl rfl ?_
          refine w_ishr (pc2 := 28) C dX7_addNumber_27 rfl ?_
          refine w_i2b (pc2 := 29) C dX7_addNumber_28 rfl ?_
          -- at 29: .bastore
          have e8 : (8 * ((d + 1 : Nat) : Int) - 8) = 8 * (d : Int) := by omega
          rw [e8]
          refine z_bast (pc2 := 30) (j := (J 1 1).toNat) C dX7_addNumber_29 (by first | exact hy.k _ | assumption) (by omega) (by omega) (by decide) rfl ?_
          refine w_aload_n (pc2 := 31) C dX7_addNumber_30 rfl rfl ?_
          refine w_dup (pc2 := 32) C dX7_addNumber_31 rfl rfl ?_
          refine z_getI (pc2 := 35) C dX7_addNumber_32 fl_X7_15 (by first | exact hy.k _ | assumption) rfl ?_
          refine w_iconst (pc2 := 36) (v := iI 1) C dX7_addNumber_35 (by decide) rfl ?_
          refine z_iadd (pc2 := 37) C dX7_addNumber_36 rfl ?_
          refine z_putI (pc2 := 40) C dX7_addNumber_37 fl_X7_15 (by first | exact hy.k _ | assumption) (by rfl) (by rfl) rfl ?_
          refine w_iinc (pc2 := 43) C dX7_addNumber_40 rfl (iI_add _ _) rfl (by decide) rfl rfl ?_
          try dsimp only [List.set]
          refine w_goto (tgt := 3) C dX7_addNumber_43 (by decide) ?_
          -- at 3: .iload_n 2
          have e9 : (8 * (d : Int)) + (-8) = 8 * (d : Int) - 8 := by omega
          rw [e9]
          have e1 : up2 J 2 (J 1 1).toNat (bv a d) 1 1 = J 1 1 := up2_n _ _ _ _ (by omega)
          have key := ih (up2 (up2 J 2 (J 1 1).toNat (bv a d)) 1 1 (J 1 1 + 1)) (by omega) (by rw [up2_s]; omega) (by rw [up2_s]; omega) J2 e
          rw [← e1] at key
          rw [← e1]
          exact key
  refine w_bipush (pc2 := 2) (v := iI 24) C dX7_addNumber_0 (by decide) rfl ?_
  refine w_istore_n (pc2 := 3) C dX7_addNumber_2 rfl (by decide) rfl rfl ?_
  try dsimp only [List.set]
  -- at 3: .iload_n 2
  exact key 4 J (by omega) h0 (by omega) _ rfl
end SMALL
