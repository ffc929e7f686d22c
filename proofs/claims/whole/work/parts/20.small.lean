/-! ===== small methods of the class ===== -/
section SMALL
variable {n : Nat} {K : wKd} {J : wJn} {L : wLn} {R : wRf}
theorem s_X7_hasRoom (hy : Ly K R) (hb : R32 (J 1 1)) (h0 : 0 ≤ J 1 1 ∧ J 1 1 ≤ 1000) : S_X7_hasRoom [.ref 1] n K (zw J) L R (Det (some (.int (iI (if J 1 1 + 20 ≤ 1000 then 1 else 0)))) n K (zw J) L R) := by
  refine Sp_intro [some (.ref 1)] rfl rfl (Nat.le_of_ble_eq_true rfl) rfl ?_
  intro Γ C
  replace C : C_X7_hasRoom Γ := C
  refine w_aload_n (pc2 := 1) C dX7_hasRoom_0 rfl rfl ?_
  refine z_getI (pc2 := 4) C dX7_hasRoom_1 fl_X7_15 (by first | exact hy.k _ | assumption) rfl ?_
  refine w_bipush (pc2 := 6) (v := iI 20) C dX7_hasRoom_4 (by decide) rfl ?_
  refine z_iadd (pc2 := 7) C dX7_hasRoom_6 rfl ?_
  refine w_sipush (pc2 := 10) (v := iI 1000) C dX7_hasRoom_7 (by decide) rfl ?_
  -- at 10: .if_icmp .gt 7
  refine z_icmp_gt (pc2 := 13) (tgt := 17) C dX7_hasRoom_10 (by decide) rfl (by omega) (by omega) (fun hb => ?_) (fun hb => ?_)
  · skip
    refine w_iconst (pc2 := 18) (v := iI 0) C dX7_hasRoom_17 (by decide) rfl ?_
    -- at 18: .ireturn
    exact w_zret C dX7_hasRoom_18 (Or.inl rfl) (by decide) (by decide) (DetI (by rw [if_neg (by omega)]) rfl)
  · skip
    refine w_iconst (pc2 := 14) (v := iI 1) C dX7_hasRoom_13 (by decide) rfl ?_
    refine w_goto (tgt := 18) C dX7_hasRoom_14 (by decide) ?_
    -- at 18: .ireturn
    exact w_zret C dX7_hasRoom_18 (Or.inr rfl) (by decide) (by decide) (DetI (by rw [if_pos (by omega)]) rfl)
theorem s_X10_isBell {b : Int} (hb : R32 b) : S_X10_isBell [.int (iI b)] n K (zw J) L R (Det (some (.int (iI (if 0 ≤ b ∧ b < 24 then 1 else 0)))) n K (zw J) L R) := by
  refine Sp_intro [some (.int (iI b))] rfl rfl (Nat.le_of_ble_eq_true rfl) rfl ?_
  intro Γ C
  replace C : C_X10_isBell Γ := C
  refine w_iload_n (pc2 := 1) C dX10_isBell_0 rfl rfl ?_
  -- at 1: .ifCond .lt 13
  refine z_if_lt (pc2 := 4) (tgt := 14) C dX10_isBell_1 (by decide) rfl (by omega) (fun h1 => ?_) (fun h1 => ?_)
  · skip
    refine w_iconst (pc2 := 15) (v := iI 0) C dX10_isBell_14 (by decide) rfl ?_
    -- at 15: .ireturn
    exact w_zret C dX10_isBell_15 (Or.inl rfl) (by decide) (by decide) (DetI (by rw [if_neg (by omega)]) rfl)
  · skip
    refine w_iload_n (pc2 := 5) C dX10_isBell_4 rfl rfl ?_
    refine w_bipush (pc2 := 7) (v := iI 24) C dX10_isBell_5 (by decide) rfl ?_
    -- at 7: .if_icmp .ge 7
    refine z_icmp_ge (pc2 := 10) (tgt := 14) C dX10_isBell_7 (by decide) rfl (by omega) (by omega) (fun h2 => ?_) (fun h2 => ?_)
    · skip
      refine w_iconst (pc2 := 15) (v := iI 0) C dX10_isBell_14 (by decide) rfl ?_
      -- at 15: .ireturn
      exact w_zret C dX10_isBell_15 (Or.inl rfl) (by decide) (by decide) (DetI (by rw [if_neg (by omega)]) rfl)
    · skip
      refine w_iconst (pc2 := 11) (v := iI 1) C dX10_isBell_10 (by decide) rfl ?_
      refine w_goto (tgt := 15) C dX10_isBell_11 (by decide) ?_
      -- at 15: .ireturn
      exact w_zret C dX10_isBell_15 (Or.inr rfl) (by decide) (by decide) (DetI (by rw [if_pos (by omega)]) rfl)
theorem s_X5_has {b : Nat} (hk : K b = (5, 0)) {k : Int} (h : R32 k) (hs : R32 (J b 2)) : S_X5_has [.ref b, .int (iI k)] n K (zw J) L R (Det (some (.int (iI (if 0 ≤ k ∧ k < J b 2 then 1 else 0)))) n K (zw J) L R) := by
  refine Sp_intro [some (.ref b), some (.int (iI k))] rfl rfl (Nat.le_of_ble_eq_true rfl) rfl ?_
  intro Γ C
  replace C : C_X5_has Γ := C
  refine w_iload_n (pc2 := 1) C dX5_has_0 rfl rfl ?_
  -- at 1: .ifCond .lt 15
  refine z_if_lt (pc2 := 4) (tgt := 16) C dX5_has_1 (by decide) rfl (by omega) (fun h1 => ?_) (fun h1 => ?_)
  · skip
    refine w_iconst (pc2 := 17) (v := iI 0) C dX5_has_16 (by decide) rfl ?_
    -- at 17: .ireturn
    exact w_zret C dX5_has_17 (Or.inl rfl) (by decide) (by decide) (DetI (by rw [if_neg (by omega)]) rfl)
  · skip
    refine w_iload_n (pc2 := 5) C dX5_has_4 rfl rfl ?_
    refine w_aload_n (pc2 := 6) C dX5_has_5 rfl rfl ?_
    refine z_getI (pc2 := 9) C dX5_has_6 fl_X5_18 (by first | exact hy.k _ | assumption) rfl ?_
    -- at 9: .if_icmp .ge 7
    refine z_icmp_ge (pc2 := 12) (tgt := 16) C dX5_has_9 (by decide) rfl (by omega) (by omega) (fun h2 => ?_) (fun h2 => ?_)
    · skip
      refine w_iconst (pc2 := 17) (v := iI 0) C dX5_has_16 (by decide) rfl ?_
      -- at 17: .ireturn
      exact w_zret C dX5_has_17 (Or.inl rfl) (by decide) (by decide) (DetI (by rw [if_neg (by omega)]) rfl)
    · skip
      refine w_iconst (pc2 := 13) (v := iI 1) C dX5_has_12 (by decide) rfl ?_
      refine w_goto (tgt := 17) C dX5_has_13 (by decide) ?_
      -- at 17: .ireturn
      exact w_zret C dX5_has_17 (Or.inr rfl) (by decide) (by decide) (DetI (by rw [if_pos (by omega)]) rfl)
theorem s_X10_end (hy : Ly K R) {a : Int} (ha : R32 a) (hb : R32 (J 1 1)) : S_X10_end [.ref 0, .int (iI a)] n K (zw J) L R (Det (some (.int (iI (if 0 ≤ a ∧ a ≤ J 1 1 then 1 else 0)))) n K (zw (if 0 ≤ a ∧ a ≤ J 1 1 then up2 J 1 1 a else J)) L R) := by
  refine Sp_intro [some (.ref 0), some (.int (iI a))] rfl rfl (Nat.le_of_ble_eq_true rfl) rfl ?_
  intro Γ C
  replace C : C_X10_end Γ := C
  refine w_iload_n (pc2 := 1) C dX10_end_0 rfl rfl ?_
  -- at 1: .ifCond .lt 14
  refine z_if_lt (pc2 := 4) (tgt := 15) C dX10_end_1 (by decide) rfl (by omega) (fun h1 => ?_) (fun h1 => ?_)
  · skip
    refine w_iconst (pc2 := 16) (v := iI 0) C dX10_end_15 (by decide) rfl ?_
    -- at 16: .ireturn
    exact w_zret C dX10_end_16 (Or.inl rfl) (by decide) (by decide) (DetI (by rw [if_neg (by omega)]) (by rw [if_neg (by omega)]))
  · skip
    refine w_iload_n (pc2 := 5) C dX10_end_4 rfl rfl ?_
    refine w_aload_n (pc2 := 6) C dX10_end_5 rfl rfl ?_
    refine w_getR (pc2 := 9) C dX10_end_6 fl_X10_10 (by first | exact hy.k _ | assumption) (by first | exact hy.r _ _ | assumption) rfl ?_
    refine z_getI (pc2 := 12) C dX10_end_9 fl_X10_75 (by first | exact hy.k _ | assumption) rfl ?_
    -- at 12: .if_icmp .le 5
    refine z_icmp_le (pc2 := 15) (tgt := 17) C dX10_end_12 (by decide) rfl (by omega) (by omega) (fun h2 => ?_) (fun h2 => ?_)
    · skip
      refine w_aload_n (pc2 := 18) C dX10_end_17 rfl rfl ?_
      refine w_getR (pc2 := 21) C dX10_end_18 fl_X10_10 (by first | exact hy.k _ | assumption) (by first | exact hy.r _ _ | assumption) rfl ?_
      refine w_iload_n (pc2 := 22) C dX10_end_21 rfl rfl ?_
      refine z_putI (pc2 := 25) C dX10_end_22 fl_X10_75 (by first | exact hy.k _ | assumption) (by rfl) (by rfl) rfl ?_
      refine w_iconst (pc2 := 26) (v := iI 1) C dX10_end_25 (by decide) rfl ?_
      -- at 26: .ireturn
      exact w_zret C dX10_end_26 (Or.inr rfl) (by decide) (by decide) (DetI (by rw [if_pos (by omega)]) (by rw [if_pos (by omega)]))
    · skip
      refine w_iconst (pc2 := 16) (v := iI 0) C dX10_end_15 (by decide) rfl ?_
      -- at 16: .ireturn
      exact w_zret C dX10_end_16 (Or.inl rfl) (by decide) (by decide) (DetI (by rw [if_neg (by omega)]) (by rw [if_neg (by omega)]))
theorem s_X10_fault (hy : Ly K R) {a : Int} (ha : R32 a) : S_X10_fault [.ref 0, .int (iI a)] n K (zw J) L R (Det (some (.int (iI (if a = 0 then J 11 4 else if a = 1 then J 11 5 else -1)))) n K (zw J) L R) := by
  refine Sp_intro [some (.ref 0), some (.int (iI a))] rfl rfl (Nat.le_of_ble_eq_true rfl) rfl ?_
  intro Γ C
  replace C : C_X10_fault Γ := C
  refine w_iload_n (pc2 := 1) C dX10_fault_0 rfl rfl ?_
  -- at 1: .lookupswitch 43 #[(0, 27), (1, 35)]
  refine z_look01 (t0 := 28) (t1 := 36) (td := 44) C dX10_fault_1 (by decide) (by decide) (by decide) (by omega) (fun h1 => ?_) (fun h1 => ?_) (fun h1 => ?_)
  · skip
    refine w_aload_n (pc2 := 29) C dX10_fault_28 rfl rfl ?_
    refine w_getR (pc2 := 32) C dX10_fault_29 fl_X10_28 (by first | exact hy.k _ | assumption) (by first | exact hy.r _ _ | assumption) rfl ?_
    refine z_getI (pc2 := 35) C dX10_fault_32 fl_X10_85 (by first | exact hy.k _ | assumption) rfl ?_
    -- at 35: .ireturn
    exact w_iret C dX10_fault_35 (by decide) (by decide) (DetI (by rw [if_pos h1]) rfl)
  · skip
    refine w_aload_n (pc2 := 37) C dX10_fault_36 rfl rfl ?_
    refine w_getR (pc2 := 40) C dX10_fault_37 fl_X10_28 (by first | exact hy.k _ | assumption) (by first | exact hy.r _ _ | assumption) rfl ?_
    refine z_getI (pc2 := 43) C dX10_fault_40 fl_X10_89 (by first | exact hy.k _ | assumption) rfl ?_
    -- at 43: .ireturn
    exact w_iret C dX10_fault_43 (by decide) (by decide) (DetI (by rw [if_neg (by omega), if_pos h1]) rfl)
  · skip
    refine w_iconst (pc2 := 45) (v := iI (-1)) C dX10_fault_44 (by decide) rfl ?_
    -- at 45: .ireturn
    exact w_iret C dX10_fault_45 (by decide) (by decide) (DetI (by rw [if_neg h1.1, if_neg h1.2]) rfl)
theorem s_X10_strike (hy : Ly K R) {k a : Int} (hk : R32 k) (ha : R32 a) (hc : 0 ≤ J 12 2 ∧ J 12 2 ≤ 100) : S_X10_strike [.ref 0, .int (iI k), .int (iI a)] n K (zw J) L R (Det (some (.int (iI (if 0 ≤ k ∧ k < J 12 2 then (if a = 0 then J 13 k.toNat else if a = 1 then J 14 k.toNat else -1) else -1)))) n K (zw J) L R) := by
  refine Sp_intro [some (.ref 0), some (.int (iI k)), some (.int (iI a))] rfl rfl (Nat.le_of_ble_eq_true rfl) rfl ?_
  intro Γ C
  replace C : C_X10_strike Γ := C
  refine w_aload_n (pc2 := 1) C dX10_strike_0 rfl rfl ?_
  refine w_getR (pc2 := 4) C dX10_strike_1 fl_X10_28 (by first | exact hy.k _ | assumption) (by first | exact hy.r _ _ | assumption) rfl ?_
  refine w_getR (pc2 := 7) C dX10_strike_4 fl_X10_38 (by first | exact hy.k _ | assumption) (by first | exact hy.r _ _ | assumption) rfl ?_
  refine w_iload_n (pc2 := 8) C dX10_strike_7 rfl rfl ?_
  -- at 8: .invokevirtual 99
  refine w_cVi (pc2 := 11)  C dX10_strike_8 mb_X10_99 mv_X5_has (s_X5_has (hy.k 12) hk (by omega)) (by first | exact hy.k _ | assumption) rfl (by decide) rfl rfl (Nat.le_of_ble_eq_true rfl) ⟨by decide, by decide⟩ ⟨rfl, rfl⟩ ⟨by decide, by decide⟩ rfl ?_
  -- at 11: .ifCond .ne 5
  refine z_if_ne (pc2 := 14) (tgt := 16) C dX10_strike_11 (by decide) rfl (by split <;> omega) (fun h1 => ?_) (fun h1 => ?_)
  · have h2 : 0 ≤ k ∧ k < J 12 2 := by
      rcases Decidable.em (0 ≤ k ∧ k < J 12 2) with q | q
      · exact q
      · rw [if_neg q] at h1; exact absurd rfl h1
    refine w_iload_n (pc2 := 17) C dX10_strike_16 rfl rfl ?_
    -- at 17: .lookupswitch 53 #[(0, 27), (1, 40)]
    refine z_look01 (t0 := 44) (t1 := 57) (td := 70) C dX10_strike_17 (by decide) (by decide) (by decide) (by omega) (fun h3 => ?_) (fun h3 => ?_) (fun h3 => ?_)
    · skip
      refine w_aload_n (pc2 := 45) C dX10_strike_44 rfl rfl ?_
      refine w_getR (pc2 := 48) C dX10_strike_45 fl_X10_28 (by first | exact hy.k _ | assumption) (by first | exact hy.r _ _ | assumption) rfl ?_
      refine w_getR (pc2 := 51) C dX10_strike_48 fl_X10_38 (by first | exact hy.k _ | assumption) (by first | exact hy.r _ _ | assumption) rfl ?_
      refine w_getR (pc2 := 54) C dX10_strike_51 fl_X10_103 (by first | exact hy.k _ | assumption) (by first | exact hy.r _ _ | assumption) rfl ?_
      refine w_iload_n (pc2 := 55) C dX10_strike_54 rfl rfl ?_
      -- at 55: .iaload
      refine z_iald (pc2 := 56) (j := k.toNat) C dX10_strike_55 (by first | exact hy.k _ | assumption) (by omega) (by omega) (by decide) rfl ?_
      exact w_iret C dX10_strike_56 (by decide) (by decide) (DetI (by rw [if_pos h2, if_pos h3]) rfl)
    · skip
      refine w_aload_n (pc2 := 58) C dX10_strike_57 rfl rfl ?_
      refine w_getR (pc2 := 61) C dX10_strike_58 fl_X10_28 (by first | exact hy.k _ | assumption) (by first | exact hy.r _ _ | assumption) rfl ?_
      refine w_getR (pc2 := 64) C dX10_strike_61 fl_X10_38 (by first | exact hy.k _ | assumption) (by first | exact hy.r _ _ | assumption) rfl ?_
      refine w_getR (pc2 := 67) C dX10_strike_64 fl_X10_107 (by first | exact hy.k _ | assumption) (by first | exact hy.r _ _ | assumption) rfl ?_
      refine w_iload_n (pc2 := 68) C dX10_strike_67 rfl rfl ?_
      -- at 68: .iaload
      refine z_iald (pc2 := 69) (j := k.toNat) C dX10_strike_68 (by first | exact hy.k _ | assumption) (by omega) (by omega) (by decide) rfl ?_
      exact w_iret C dX10_strike_69 (by decide) (by decide) (DetI (by rw [if_pos h2, if_neg (by omega), if_pos h3]) rfl)
    · skip
      refine w_iconst (pc2 := 71) (v := iI (-1)) C dX10_strike_70 (by decide) rfl ?_
      -- at 71: .ireturn
      exact w_iret C dX10_strike_71 (by decide) (by decide) (DetI (by rw [if_pos h2, if_neg h3.1, if_neg h3.2]) rfl)
  · have h2 : ¬ (0 ≤ k ∧ k < J 12 2) := by
      intro q
      rw [if_pos q] at h1; exact absurd h1 (by decide)
    refine w_iconst (pc2 := 15) (v := iI (-1)) C dX10_strike_14 (by decide) rfl ?_
    -- at 15: .ireturn
    exact w_iret C dX10_strike_15 (by decide) (by decide) (DetI (by rw [if_neg h2]) rfl)
theorem s_X10_fists (hy : Ly K R) {a b : Int} (ha : R32 a) (hb : R32 b) : S_X10_fists [.ref 0, .int (iI a), .int (iI b)] n K (zw J) L R (Det (some (.int (iI (if 1 ≤ a ∧ a ≤ 24 ∧ 0 ≤ b ∧ b ≤ 10000 then 1 else 0)))) n K (zw (if 1 ≤ a ∧ a ≤ 24 ∧ 0 ≤ b ∧ b ≤ 10000 then up2 (up2 (up2 J 11 6 a) 11 7 b) 0 7 0 else J)) L R) := by
  refine Sp_intro [some (.ref 0), some (.int (iI a)), some (.int (iI b))] rfl rfl (Nat.le_of_ble_eq_true rfl) rfl ?_
  intro Γ C
  replace C : C_X10_fists Γ := C
  refine w_iload_n (pc2 := 1) C dX10_fists_0 rfl rfl ?_
  refine w_iconst (pc2 := 2) (v := iI 1) C dX10_fists_1 (by decide) rfl ?_
  -- at 2: .if_icmp .lt 20
  refine z_icmp_lt (pc2 := 5) (tgt := 22) C dX10_fists_2 (by decide) rfl (by omega) (by omega) (fun h1 => ?_) (fun h1 => ?_)
  · skip
    refine w_iconst (pc2 := 23) (v := iI 0) C dX10_fists_22 (by decide) rfl ?_
    -- at 23: .ireturn
    exact w_zret C dX10_fists_23 (Or.inl rfl) (by decide) (by decide) (DetI (by rw [if_neg (by omega)]) (by rw [if_neg (by omega)]))
  · skip
    refine w_iload_n (pc2 := 6) C dX10_fists_5 rfl rfl ?_
    refine w_bipush (pc2 := 8) (v := iI 24) C dX10_fists_6 (by decide) rfl ?_
    -- at 8: .if_icmp .gt 14
    refine z_icmp_gt (pc2 := 11) (tgt := 22) C dX10_fists_8 (by decide) rfl (by omega) (by omega) (fun h2 => ?_) (fun h2 => ?_)
    · skip
      refine w_iconst (pc2 := 23) (v := iI 0) C dX10_fists_22 (by decide) rfl ?_
      -- at 23: .ireturn
      exact w_zret C dX10_fists_23 (Or.inl rfl) (by decide) (by decide) (DetI (by rw [if_neg (by omega)]) (by rw [if_neg (by omega)]))
    · skip
      refine w_iload_n (pc2 := 12) C dX10_fists_11 rfl rfl ?_
      -- at 12: .ifCond .lt 10
      refine z_if_lt (pc2 := 15) (tgt := 22) C dX10_fists_12 (by decide) rfl (by omega) (fun h3 => ?_) (fun h3 => ?_)
      · skip
        refine w_iconst (pc2 := 23) (v := iI 0) C dX10_fists_22 (by decide) rfl ?_
        -- at 23: .ireturn
        exact w_zret C dX10_fists_23 (Or.inl rfl) (by decide) (by decide) (DetI (by rw [if_neg (by omega)]) (by rw [if_neg (by omega)]))
      · skip
        refine w_iload_n (pc2 := 16) C dX10_fists_15 rfl rfl ?_
        refine w_sipush (pc2 := 19) (v := iI 10000) C dX10_fists_16 (by decide) rfl ?_
        -- at 19: .if_icmp .le 5
        refine z_icmp_le (pc2 := 22) (tgt := 24) C dX10_fists_19 (by decide) rfl (by omega) (by omega) (fun h4 => ?_) (fun h4 => ?_)
        · skip
          refine w_aload_n (pc2 := 25) C dX10_fists_24 rfl rfl ?_
          refine w_getR (pc2 := 28) C dX10_fists_25 fl_X10_28 (by first | exact hy.k _ | assumption) (by first | exact hy.r _ _ | assumption) rfl ?_
          refine w_iload_n (pc2 := 29) C dX10_fists_28 rfl rfl ?_
          refine z_putI (pc2 := 32) C dX10_fists_29 fl_X10_120 (by first | exact hy.k _ | assumption) (by rfl) (by rfl) rfl ?_
          refine w_aload_n (pc2 := 33) C dX10_fists_32 rfl rfl ?_
          refine w_getR (pc2 := 36) C dX10_fists_33 fl_X10_28 (by first | exact hy.k _ | assumption) (by first | exact hy.r _ _ | assumption) rfl ?_
          refine w_iload_n (pc2 := 37) C dX10_fists_36 rfl rfl ?_
          refine z_putI (pc2 := 40) C dX10_fists_37 fl_X10_123 (by first | exact hy.k _ | assumption) (by rfl) (by rfl) rfl ?_
          refine w_aload_n (pc2 := 41) C dX10_fists_40 rfl rfl ?_
          refine w_iconst (pc2 := 42) (v := iI 0) C dX10_fists_41 (by decide) rfl ?_
          refine z_putI (pc2 := 45) C dX10_fists_42 fl_X10_63 (by first | exact hy.k _ | assumption) (by rfl) (by rfl) rfl ?_
          refine w_iconst (pc2 := 46) (v := iI 1) C dX10_fists_45 (by decide) rfl ?_
          -- at 46: .ireturn
          exact w_zret C dX10_fists_46 (Or.inr rfl) (by decide) (by decide) (DetI (by rw [if_pos (by omega)]) (by rw [if_pos (by omega)]))
        · skip
          refine w_iconst (pc2 := 23) (v := iI 0) C dX10_fists_22 (by decide) rfl ?_
          -- at 23: .ireturn
          exact w_zret C dX10_fists_23 (Or.inl rfl) (by decide) (by decide) (DetI (by rw [if_neg (by omega)]) (by rw [if_neg (by omega)]))
end SMALL
