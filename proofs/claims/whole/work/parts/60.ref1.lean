/-! ===== the reference: small things ===== -/
/-- its music -/
def MuR (J : wJn) (c : Nat) : Prop := J 35 0 = c ∧ c ≤ 100 ∧ ∀ i, i < c → 0 ≤ J 35 (2 + i) ∧ J 35 (2 + i) ≤ 3000 ∧ 0 ≤ J 35 (102 + i) ∧ J 35 (102 + i) < 24
abbrev tR (J : wJn) : Nat → Int := fun i => J 35 (2 + i)
abbrev bR (J : wJn) : Nat → Int := fun i => J 35 (102 + i)
theorem bit01 {m b : Nat} (hm : m < 2 ^ 24) (hb : b < 24) : ((iI (m : Int) >>> (iI (b : Nat) &&& 31)) &&& iI 1) = iI (if m.testBit b = true then 1 else 0) := by
  have e1 : iI (m : Int) >>> (iI (b : Nat) &&& 31) = nI (m / 2 ^ b) := pk_shrN (n := m) (by omega) _ b (shs_all b hb)
  have e2 : nI (m / 2 ^ b) &&& nI 1 = nI ((m / 2 ^ b) &&& 1) := fa_and _ _
  rw [e1, show iI 1 = nI 1 from rfl, e2, Nat.and_one_is_mod, nI_i, Nat.testBit_eq_decide_div_mod_eq]
  congr 1
  by_cases h : m / 2 ^ b % 2 = 1
  · simp [h]
  · have : m / 2 ^ b % 2 = 0 := by omega
    simp [this]
section REF1
variable {n : Nat} {K : wKd} {J : wJn} {L : wLn} {R : wRf}
theorem s_X11_isBell {b : Int} (hb : R32 b) : S_X11_isBell [.int (iI b)] n K (zw J) L R (Det (some (.int (iI (if 0 ≤ b ∧ b < 24 then 1 else 0)))) n K (zw J) L R) := by
  refine Sp_intro [some (.int (iI b))] rfl rfl (Nat.le_of_ble_eq_true rfl) rfl ?_
  intro Γ C
  replace C : C_X11_isBell Γ := C
  refine w_iload_n (pc2 := 1) C dX11_isBell_0 rfl rfl ?_
  -- at 1: .ifCond .lt 13
  refine z_if_lt (pc2 := 4) (tgt := 14) C dX11_isBell_1 (by decide) rfl (by omega) (fun h1 => ?_) (fun h1 => ?_)
  · skip
    refine w_iconst (pc2 := 15) (v := iI 0) C dX11_isBell_14 (by decide) rfl ?_
    -- at 15: .ireturn
    exact w_zret C dX11_isBell_15 (Or.inl rfl) (by decide) (by decide) (DetI (by rw [if_neg (by omega)]) rfl)
  · skip
    refine w_iload_n (pc2 := 5) C dX11_isBell_4 rfl rfl ?_
    refine w_bipush (pc2 := 7) (v := iI 24) C dX11_isBell_5 (by decide) rfl ?_
    -- at 7: .if_icmp .ge 7
    refine z_icmp_ge (pc2 := 10) (tgt := 14) C dX11_isBell_7 (by decide) rfl (by omega) (by omega) (fun h2 => ?_) (fun h2 => ?_)
    · skip
      refine w_iconst (pc2 := 15) (v := iI 0) C dX11_isBell_14 (by decide) rfl ?_
      -- at 15: .ireturn
      exact w_zret C dX11_isBell_15 (Or.inl rfl) (by decide) (by decide) (DetI (by rw [if_neg (by omega)]) rfl)
    · skip
      refine w_iconst (pc2 := 11) (v := iI 1) C dX11_isBell_10 (by decide) rfl ?_
      refine w_goto (tgt := 15) C dX11_isBell_11 (by decide) ?_
      -- at 15: .ireturn
      exact w_zret C dX11_isBell_15 (Or.inr rfl) (by decide) (by decide) (DetI (by rw [if_pos (by omega)]) rfl)
theorem s_X11_fault (hy : Ly K R) {a : Int} (ha : R32 a) : S_X11_fault [.ref 34, .int (iI a)] n K (zw J) L R (Det (some (.int (iI (if a = 0 then J 35 231 else if a = 1 then J 35 232 else -1)))) n K (zw J) L R) := by
  refine Sp_intro [some (.ref 34), some (.int (iI a))] rfl rfl (Nat.le_of_ble_eq_true rfl) rfl ?_
  intro Γ C
  replace C : C_X11_fault Γ := C
  refine w_iload_n (pc2 := 1) C dX11_fault_0 rfl rfl ?_
  -- at 1: .ifCond .ne 14
  refine z_if_ne (pc2 := 4) (tgt := 15) C dX11_fault_1 (by decide) rfl (by omega) (fun h1 => ?_) (fun h1 => ?_)
  · skip
    refine w_iload_n (pc2 := 16) C dX11_fault_15 rfl rfl ?_
    refine w_iconst (pc2 := 17) (v := iI 1) C dX11_fault_16 (by decide) rfl ?_
    -- at 17: .if_icmp .ne 14
    refine z_icmp_ne (pc2 := 20) (tgt := 31) C dX11_fault_17 (by decide) rfl (by omega) (by omega) (fun h2 => ?_) (fun h2 => ?_)
    · skip
      refine w_iconst (pc2 := 32) (v := iI (-1)) C dX11_fault_31 (by decide) rfl ?_
      -- at 32: .ireturn
      exact w_iret C dX11_fault_32 (by decide) (by decide) (DetI (by rw [if_neg h1, if_neg h2]) rfl)
    · skip
      refine w_aload_n (pc2 := 21) C dX11_fault_20 rfl rfl ?_
      refine w_getR (pc2 := 24) C dX11_fault_21 fl_X11_7 (by first | exact hy.k _ | assumption) (by first | exact hy.r _ _ | assumption) rfl ?_
      refine w_sipush (pc2 := 27) (v := iI 232) C dX11_fault_24 (by decide) rfl ?_
      -- at 27: .iaload
      refine z_iald (pc2 := 28) (j := 232) C dX11_fault_27 (by first | exact hy.k _ | assumption) (by omega) (by omega) (by decide) rfl ?_
      refine w_goto (tgt := 32) C dX11_fault_28 (by decide) ?_
      -- at 32: .ireturn
      exact w_iret C dX11_fault_32 (by decide) (by decide) (DetI (by rw [if_neg h1, if_pos h2]) rfl)
  · skip
    refine w_aload_n (pc2 := 5) C dX11_fault_4 rfl rfl ?_
    refine w_getR (pc2 := 8) C dX11_fault_5 fl_X11_7 (by first | exact hy.k _ | assumption) (by first | exact hy.r _ _ | assumption) rfl ?_
    refine w_sipush (pc2 := 11) (v := iI 231) C dX11_fault_8 (by decide) rfl ?_
    -- at 11: .iaload
    refine z_iald (pc2 := 12) (j := 231) C dX11_fault_11 (by first | exact hy.k _ | assumption) (by omega) (by omega) (by decide) rfl ?_
    refine w_goto (tgt := 32) C dX11_fault_12 (by decide) ?_
    -- at 32: .ireturn
    exact w_iret C dX11_fault_32 (by decide) (by decide) (DetI (by rw [if_pos h1]) rfl)
theorem s_X11_strike (hy : Ly K R) {c : Nat} (hc : J 35 0 = c) (hc2 : c ≤ 100) {k a : Int} (hk : R32 k) (ha : R32 a) : S_X11_strike [.ref 34, .int (iI k), .int (iI a)] n K (zw J) L R (Det (some (.int (iI (if 0 ≤ k ∧ k < c then (if a = 0 then J 35 (2 + k.toNat) else if a = 1 then J 35 (102 + k.toNat) else -1) else -1)))) n K (zw J) L R) := by
  refine Sp_intro [some (.ref 34), some (.int (iI k)), some (.int (iI a))] rfl rfl (Nat.le_of_ble_eq_true rfl) rfl ?_
  intro Γ C
  replace C : C_X11_strike Γ := C
  refine w_iload_n (pc2 := 1) C dX11_strike_0 rfl rfl ?_
  -- at 1: .ifCond .lt 13
  refine z_if_lt (pc2 := 4) (tgt := 14) C dX11_strike_1 (by decide) rfl (by omega) (fun h1 => ?_) (fun h1 => ?_)
  · skip
    refine w_iconst (pc2 := 15) (v := iI (-1)) C dX11_strike_14 (by decide) rfl ?_
    -- at 15: .ireturn
    exact w_iret C dX11_strike_15 (by decide) (by decide) (DetI (by rw [if_neg (by omega)]) rfl)
  · skip
    refine w_iload_n (pc2 := 5) C dX11_strike_4 rfl rfl ?_
    refine w_aload_n (pc2 := 6) C dX11_strike_5 rfl rfl ?_
    refine w_getR (pc2 := 9) C dX11_strike_6 fl_X11_7 (by first | exact hy.k _ | assumption) (by first | exact hy.r _ _ | assumption) rfl ?_
    refine w_iconst (pc2 := 10) (v := iI 0) C dX11_strike_9 (by decide) rfl ?_
    -- at 10: .iaload
    refine z_iald (pc2 := 11) (j := 0) C dX11_strike_10 (by first | exact hy.k _ | assumption) (by omega) (by omega) (by decide) rfl ?_
    rw [hc]
    refine z_icmp_lt (pc2 := 14) (tgt := 16) C dX11_strike_11 (by decide) rfl (by omega) (by omega) (fun h2 => ?_) (fun h2 => ?_)
    · rw [if_pos (by omega)]
      refine w_iload_n (pc2 := 17) C dX11_strike_16 rfl rfl ?_
      -- at 17: .ifCond .ne 14
      refine z_if_ne (pc2 := 20) (tgt := 31) C dX11_strike_17 (by decide) rfl (by omega) (fun h3 => ?_) (fun h3 => ?_)
      · rw [if_neg h3]
        refine w_iload_n (pc2 := 32) C dX11_strike_31 rfl rfl ?_
        refine w_iconst (pc2 := 33) (v := iI 1) C dX11_strike_32 (by decide) rfl ?_
        -- at 33: .if_icmp .ne 15
        refine z_icmp_ne (pc2 := 36) (tgt := 48) C dX11_strike_33 (by decide) rfl (by omega) (by omega) (fun h4 => ?_) (fun h4 => ?_)
        · rw [if_neg h4]
          refine w_iconst (pc2 := 49) (v := iI (-1)) C dX11_strike_48 (by decide) rfl ?_
          -- at 49: .ireturn
          exact w_iret C dX11_strike_49 (by decide) (by decide) (⟨rfl, rfl, rfl, rfl, rfl, rfl⟩)
        · rw [if_pos h4]
          refine w_aload_n (pc2 := 37) C dX11_strike_36 rfl rfl ?_
          refine w_getR (pc2 := 40) C dX11_strike_37 fl_X11_7 (by first | exact hy.k _ | assumption) (by first | exact hy.r _ _ | assumption) rfl ?_
          refine w_bipush (pc2 := 42) (v := iI 102) C dX11_strike_40 (by decide) rfl ?_
          refine w_iload_n (pc2 := 43) C dX11_strike_42 rfl rfl ?_
          refine z_iadd (pc2 := 44) C dX11_strike_43 rfl ?_
          -- at 44: .iaload
          refine z_iald (pc2 := 45) (j := 102 + k.toNat) C dX11_strike_44 (by first | exact hy.k _ | assumption) (by omega) (by omega) (by decide) rfl ?_
          refine w_goto (tgt := 49) C dX11_strike_45 (by decide) ?_
          -- at 49: .ireturn
          exact w_iret C dX11_strike_49 (by decide) (by decide) (⟨rfl, rfl, rfl, rfl, rfl, rfl⟩)
      · rw [if_pos h3]
        refine w_aload_n (pc2 := 21) C dX11_strike_20 rfl rfl ?_
        refine w_getR (pc2 := 24) C dX11_strike_21 fl_X11_7 (by first | exact hy.k _ | assumption) (by first | exact hy.r _ _ | assumption) rfl ?_
        refine w_iconst (pc2 := 25) (v := iI 2) C dX11_strike_24 (by decide) rfl ?_
        refine w_iload_n (pc2 := 26) C dX11_strike_25 rfl rfl ?_
        refine z_iadd (pc2 := 27) C dX11_strike_26 rfl ?_
        -- at 27: .iaload
        refine z_iald (pc2 := 28) (j := 2 + k.toNat) C dX11_strike_27 (by first | exact hy.k _ | assumption) (by omega) (by omega) (by decide) rfl ?_
        refine w_goto (tgt := 49) C dX11_strike_28 (by decide) ?_
        -- at 49: .ireturn
        exact w_iret C dX11_strike_49 (by decide) (by decide) (⟨rfl, rfl, rfl, rfl, rfl, rfl⟩)
    · skip
      refine w_iconst (pc2 := 15) (v := iI (-1)) C dX11_strike_14 (by decide) rfl ?_
      -- at 15: .ireturn
      exact w_iret C dX11_strike_15 (by decide) (by decide) (DetI (by rw [if_neg (by omega)]) rfl)
theorem s_X11_fists (hy : Ly K R) {a b : Int} (ha : R32 a) (hb : R32 b) : S_X11_fists [.ref 34, .int (iI a), .int (iI b)] n K (zw J) L R (Det (some (.int (iI (if 1 ≤ a ∧ a ≤ 24 ∧ 0 ≤ b ∧ b ≤ 10000 then 1 else 0)))) n K (zw (if 1 ≤ a ∧ a ≤ 24 ∧ 0 ≤ b ∧ b ≤ 10000 then up2 (up2 J 35 202 a) 35 203 b else J)) L R) := by
  refine Sp_intro [some (.ref 34), some (.int (iI a)), some (.int (iI b))] rfl rfl (Nat.le_of_ble_eq_true rfl) rfl ?_
  intro Γ C
  replace C : C_X11_fists Γ := C
  have no : ¬ (1 ≤ a ∧ a ≤ 24 ∧ 0 ≤ b ∧ b ≤ 10000) → wp Γ 0 0 (QQ Γ (Det (some (.int (iI (if 1 ≤ a ∧ a ≤ 24 ∧ 0 ≤ b ∧ b ≤ 10000 then 1 else 0)))) n K (zw (if 1 ≤ a ∧ a ≤ 24 ∧ 0 ≤ b ∧ b ≤ 10000 then up2 (up2 J 35 202 a) 35 203 b else J)) L R)) 22 [some (.ref 34), some (.int (iI a)), some (.int (iI b))] [] n K (zw J) L R := by
    intro h
    rw [if_neg h, if_neg h]
    refine w_iconst (pc2 := 23) (v := iI 0) C dX11_fists_22 (by decide) rfl ?_
    -- at 23: .ireturn
    exact w_zret C dX11_fists_23 (Or.inl rfl) (by decide) (by decide) (DetI rfl rfl)
  refine w_iload_n (pc2 := 1) C dX11_fists_0 rfl rfl ?_
  refine w_iconst (pc2 := 2) (v := iI 1) C dX11_fists_1 (by decide) rfl ?_
  -- at 2: .if_icmp .lt 20
  refine z_icmp_lt (pc2 := 5) (tgt := 22) C dX11_fists_2 (by decide) rfl (by omega) (by omega) (fun h1 => ?_) (fun h1 => ?_)
  · exact no (by omega)
  · skip
    refine w_iload_n (pc2 := 6) C dX11_fists_5 rfl rfl ?_
    refine w_bipush (pc2 := 8) (v := iI 24) C dX11_fists_6 (by decide) rfl ?_
    -- at 8: .if_icmp .gt 14
    refine z_icmp_gt (pc2 := 11) (tgt := 22) C dX11_fists_8 (by decide) rfl (by omega) (by omega) (fun h2 => ?_) (fun h2 => ?_)
    · exact no (by omega)
    · skip
      refine w_iload_n (pc2 := 12) C dX11_fists_11 rfl rfl ?_
      -- at 12: .ifCond .lt 10
      refine z_if_lt (pc2 := 15) (tgt := 22) C dX11_fists_12 (by decide) rfl (by omega) (fun h3 => ?_) (fun h3 => ?_)
      · exact no (by omega)
      · skip
        refine w_iload_n (pc2 := 16) C dX11_fists_15 rfl rfl ?_
        refine w_sipush (pc2 := 19) (v := iI 10000) C dX11_fists_16 (by decide) rfl ?_
        -- at 19: .if_icmp .le 5
        refine z_icmp_le (pc2 := 22) (tgt := 24) C dX11_fists_19 (by decide) rfl (by omega) (by omega) (fun h4 => ?_) (fun h4 => ?_)
        · rw [if_pos (by omega), if_pos (by omega)]
          refine w_aload_n (pc2 := 25) C dX11_fists_24 rfl rfl ?_
          refine w_getR (pc2 := 28) C dX11_fists_25 fl_X11_7 (by first | exact hy.k _ | assumption) (by first | exact hy.r _ _ | assumption) rfl ?_
          refine w_sipush (pc2 := 31) (v := iI 202) C dX11_fists_28 (by decide) rfl ?_
          refine w_iload_n (pc2 := 32) C dX11_fists_31 rfl rfl ?_
          -- at 32: .iastore
          refine z_iast (pc2 := 33) (j := 202) C dX11_fists_32 (by first | exact hy.k _ | assumption) (by omega) (by omega) (by decide) rfl ?_
          refine w_aload_n (pc2 := 34) C dX11_fists_33 rfl rfl ?_
          refine w_getR (pc2 := 37) C dX11_fists_34 fl_X11_7 (by first | exact hy.k _ | assumption) (by first | exact hy.r _ _ | assumption) rfl ?_
          refine w_sipush (pc2 := 40) (v := iI 203) C dX11_fists_37 (by decide) rfl ?_
          refine w_iload_n (pc2 := 41) C dX11_fists_40 rfl rfl ?_
          -- at 41: .iastore
          refine z_iast (pc2 := 42) (j := 203) C dX11_fists_41 (by first | exact hy.k _ | assumption) (by omega) (by omega) (by decide) rfl ?_
          refine w_iconst (pc2 := 43) (v := iI 1) C dX11_fists_42 (by decide) rfl ?_
          -- at 43: .ireturn
          exact w_zret C dX11_fists_43 (Or.inr rfl) (by decide) (by decide) (DetI rfl rfl)
        · exact no (by omega)
theorem s_X11_tail (hy : Ly K R) {a b : Int} (ha : R32 a) (hb : R32 b) : S_X11_tail [.ref 34, .int (iI a), .int (iI b)] n K (zw J) L R (Det (some (.int (iI (if (0 ≤ a ∧ a < 24) ∧ 1 ≤ b ∧ b ≤ 60 then J 35 (204 + a.toNat) else -1)))) n K (zw (if (0 ≤ a ∧ a < 24) ∧ 1 ≤ b ∧ b ≤ 60 then up2 J 35 (204 + a.toNat) b else J)) L R) := by
  refine Sp_intro [some (.ref 34), some (.int (iI a)), some (.int (iI b)), none] rfl rfl (Nat.le_of_ble_eq_true rfl) rfl ?_
  intro Γ C
  replace C : C_X11_tail Γ := C
  have no : ¬ ((0 ≤ a ∧ a < 24) ∧ 1 ≤ b ∧ b ≤ 60) → wp Γ 0 0 (QQ Γ (Det (some (.int (iI (if (0 ≤ a ∧ a < 24) ∧ 1 ≤ b ∧ b ≤ 60 then J 35 (204 + a.toNat) else -1)))) n K (zw (if (0 ≤ a ∧ a < 24) ∧ 1 ≤ b ∧ b ≤ 60 then up2 J 35 (204 + a.toNat) b else J)) L R)) 18 [some (.ref 34), some (.int (iI a)), some (.int (iI b)), none] [] n K (zw J) L R := by
    intro h
    rw [if_neg h, if_neg h]
    refine w_iconst (pc2 := 19) (v := iI (-1)) C dX11_tail_18 (by decide) rfl ?_
    -- at 19: .ireturn
    exact w_iret C dX11_tail_19 (by decide) (by decide) (⟨rfl, rfl, rfl, rfl, rfl, rfl⟩)
  refine w_iload_n (pc2 := 1) C dX11_tail_0 rfl rfl ?_
  -- at 1: .invokestatic 146
  refine w_cSi (pc2 := 4)  C dX11_tail_1 mb_X11_146 ms_X11_isBell (s_X11_isBell ha) rfl rfl (Nat.le_of_ble_eq_true rfl) ⟨by decide, by decide⟩ ⟨rfl, rfl⟩ ⟨by decide, by decide⟩ rfl ?_
  -- at 4: .ifCond .eq 14
  refine z_if_eq (pc2 := 7) (tgt := 18) C dX11_tail_4 (by decide) rfl (by split <;> omega) (fun h1 => ?_) (fun h1 => ?_)
  · exact no (fun q => by rw [if_pos q.1] at h1; exact absurd h1 (by decide))
  · have h2 : 0 ≤ a ∧ a < 24 := by
      rcases Decidable.em (0 ≤ a ∧ a < 24) with q | q
      · exact q
      · rw [if_neg q] at h1; exact absurd rfl h1
    refine w_iload_n (pc2 := 8) C dX11_tail_7 rfl rfl ?_
    refine w_iconst (pc2 := 9) (v := iI 1) C dX11_tail_8 (by decide) rfl ?_
    -- at 9: .if_icmp .lt 9
    refine z_icmp_lt (pc2 := 12) (tgt := 18) C dX11_tail_9 (by decide) rfl (by omega) (by omega) (fun h3 => ?_) (fun h3 => ?_)
    · exact no (by omega)
    · skip
      refine w_iload_n (pc2 := 13) C dX11_tail_12 rfl rfl ?_
      refine w_bipush (pc2 := 15) (v := iI 60) C dX11_tail_13 (by decide) rfl ?_
      -- at 15: .if_icmp .le 5
      refine z_icmp_le (pc2 := 18) (tgt := 20) C dX11_tail_15 (by decide) rfl (by omega) (by omega) (fun h4 => ?_) (fun h4 => ?_)
      · rw [if_pos (by omega), if_pos (by omega)]
        refine w_aload_n (pc2 := 21) C dX11_tail_20 rfl rfl ?_
        refine w_getR (pc2 := 24) C dX11_tail_21 fl_X11_7 (by first | exact hy.k _ | assumption) (by first | exact hy.r _ _ | assumption) rfl ?_
        refine w_sipush (pc2 := 27) (v := iI 204) C dX11_tail_24 (by decide) rfl ?_
        refine w_iload_n (pc2 := 28) C dX11_tail_27 rfl rfl ?_
        refine z_iadd (pc2 := 29) C dX11_tail_28 rfl ?_
        -- at 29: .iaload
        refine z_iald (pc2 := 30) (j := 204 + a.toNat) C dX11_tail_29 (by first | exact hy.k _ | assumption) (by omega) (by omega) (by decide) rfl ?_
        refine w_istore_n (pc2 := 31) C dX11_tail_30 rfl (by decide) rfl rfl ?_
        try dsimp only [List.set]
        refine w_aload_n (pc2 := 32) C dX11_tail_31 rfl rfl ?_
        refine w_getR (pc2 := 35) C dX11_tail_32 fl_X11_7 (by first | exact hy.k _ | assumption) (by first | exact hy.r _ _ | assumption) rfl ?_
        refine w_sipush (pc2 := 38) (v := iI 204) C dX11_tail_35 (by decide) rfl ?_
        refine w_iload_n (pc2 := 39) C dX11_tail_38 rfl rfl ?_
        refine z_iadd (pc2 := 40) C dX11_tail_39 rfl ?_
        refine w_iload_n (pc2 := 41) C dX11_tail_40 rfl rfl ?_
        -- at 41: .iastore
        refine z_iast (pc2 := 42) (j := 204 + a.toNat) C dX11_tail_41 (by first | exact hy.k _ | assumption) (by omega) (by omega) (by decide) rfl ?_
        refine w_iload_n (pc2 := 43) C dX11_tail_42 rfl rfl ?_
        -- at 43: .ireturn
        exact w_iret C dX11_tail_43 (by decide) (by decide) (⟨rfl, rfl, rfl, rfl, rfl, rfl⟩)
      · exact no (by omega)
theorem s_X11_quarrel (hy : Ly K R) {a : Int} (ha : R32 a) : S_X11_quarrel [.ref 34, .int (iI a)] n K (zw J) L R (Det (some (.int (iI (if 0 ≤ a ∧ a ≤ 4095 then J 35 228 else -1)))) n K (zw (if 0 ≤ a ∧ a ≤ 4095 then up2 J 35 228 a else J)) L R) := by
  refine Sp_intro [some (.ref 34), some (.int (iI a)), none] rfl rfl (Nat.le_of_ble_eq_true rfl) rfl ?_
  intro Γ C
  replace C : C_X11_quarrel Γ := C
  refine w_iload_n (pc2 := 1) C dX11_quarrel_0 rfl rfl ?_
  -- at 1: .ifCond .lt 10
  refine z_if_lt (pc2 := 4) (tgt := 11) C dX11_quarrel_1 (by decide) rfl (by omega) (fun h1 => ?_) (fun h1 => ?_)
  · rw [if_neg (by omega), if_neg (by omega)]
    refine w_iconst (pc2 := 12) (v := iI (-1)) C dX11_quarrel_11 (by decide) rfl ?_
    -- at 12: .ireturn
    exact w_iret C dX11_quarrel_12 (by decide) (by decide) (⟨rfl, rfl, rfl, rfl, rfl, rfl⟩)
  · skip
    refine w_iload_n (pc2 := 5) C dX11_quarrel_4 rfl rfl ?_
    refine w_sipush (pc2 := 8) (v := iI 4095) C dX11_quarrel_5 (by decide) rfl ?_
    -- at 8: .if_icmp .le 5
    refine z_icmp_le (pc2 := 11) (tgt := 13) C dX11_quarrel_8 (by decide) rfl (by omega) (by omega) (fun h2 => ?_) (fun h2 => ?_)
    · rw [if_pos (by omega), if_pos (by omega)]
      refine w_aload_n (pc2 := 14) C dX11_quarrel_13 rfl rfl ?_
      refine w_getR (pc2 := 17) C dX11_quarrel_14 fl_X11_7 (by first | exact hy.k _ | assumption) (by first | exact hy.r _ _ | assumption) rfl ?_
      refine w_sipush (pc2 := 20) (v := iI 228) C dX11_quarrel_17 (by decide) rfl ?_
      -- at 20: .iaload
      refine z_iald (pc2 := 21) (j := 228) C dX11_quarrel_20 (by first | exact hy.k _ | assumption) (by omega) (by omega) (by decide) rfl ?_
      refine w_istore_n (pc2 := 22) C dX11_quarrel_21 rfl (by decide) rfl rfl ?_
      try dsimp only [List.set]
      refine w_aload_n (pc2 := 23) C dX11_quarrel_22 rfl rfl ?_
      refine w_getR (pc2 := 26) C dX11_quarrel_23 fl_X11_7 (by first | exact hy.k _ | assumption) (by first | exact hy.r _ _ | assumption) rfl ?_
      refine w_sipush (pc2 := 29) (v := iI 228) C dX11_quarrel_26 (by decide) rfl ?_
      refine w_iload_n (pc2 := 30) C dX11_quarrel_29 rfl rfl ?_
      -- at 30: .iastore
      refine z_iast (pc2 := 31) (j := 228) C dX11_quarrel_30 (by first | exact hy.k _ | assumption) (by omega) (by omega) (by decide) rfl ?_
      refine w_iload_n (pc2 := 32) C dX11_quarrel_31 rfl rfl ?_
      -- at 32: .ireturn
      exact w_iret C dX11_quarrel_32 (by decide) (by decide) (⟨rfl, rfl, rfl, rfl, rfl, rfl⟩)
    · rw [if_neg (by omega), if_neg (by omega)]
      refine w_iconst (pc2 := 12) (v := iI (-1)) C dX11_quarrel_11 (by decide) rfl ?_
      -- at 12: .ireturn
      exact w_iret C dX11_quarrel_12 (by decide) (by decide) (⟨rfl, rfl, rfl, rfl, rfl, rfl⟩)
theorem s_X11_turn (hy : Ly K R) : S_X11_turn [.ref 34] n K (zw J) L R (Det (some (.int (iI (J 35 230)))) n K (zw J) L R) := by
  refine Sp_intro [some (.ref 34)] rfl rfl (Nat.le_of_ble_eq_true rfl) rfl ?_
  intro Γ C
  replace C : C_X11_turn Γ := C
  refine w_aload_n (pc2 := 1) C dX11_turn_0 rfl rfl ?_
  refine w_getR (pc2 := 4) C dX11_turn_1 fl_X11_7 (by first | exact hy.k _ | assumption) (by first | exact hy.r _ _ | assumption) rfl ?_
  refine w_sipush (pc2 := 7) (v := iI 230) C dX11_turn_4 (by decide) rfl ?_
  -- at 7: .iaload
  refine z_iald (pc2 := 8) (j := 230) C dX11_turn_7 (by first | exact hy.k _ | assumption) (by omega) (by omega) (by decide) rfl ?_
  exact w_iret C dX11_turn_8 (by decide) (by decide) (⟨rfl, rfl, rfl, rfl, rfl, rfl⟩)
theorem s_X11_strikes (hy : Ly K R) {a : Int} (ha : R32 a) : S_X11_strikes [.ref 34, .int (iI a)] n K (zw J) L R (Det (some (.long (if 0 ≤ a ∧ a < 24 then L 36 a.toNat else -1))) n K (zw J) L R) := by
  refine Sp_intro [some (.ref 34), some (.int (iI a))] rfl rfl (Nat.le_of_ble_eq_true rfl) rfl ?_
  intro Γ C
  replace C : C_X11_strikes Γ := C
  refine w_iload_n (pc2 := 1) C dX11_strikes_0 rfl rfl ?_
  -- at 1: .invokestatic 146
  refine w_cSi (pc2 := 4)  C dX11_strikes_1 mb_X11_146 ms_X11_isBell (s_X11_isBell ha) rfl rfl (Nat.le_of_ble_eq_true rfl) ⟨by decide, by decide⟩ ⟨rfl, rfl⟩ ⟨by decide, by decide⟩ rfl ?_
  -- at 4: .ifCond .eq 12
  refine z_if_eq (pc2 := 7) (tgt := 16) C dX11_strikes_4 (by decide) rfl (by split <;> omega) (fun h1 => ?_) (fun h1 => ?_)
  · have h2 : ¬ (0 ≤ a ∧ a < 24) := fun q => by rw [if_pos q] at h1; exact absurd h1 (by decide)
    rw [if_neg h2]
    refine w_ldc2 (pc2 := 19) C dX11_strikes_16 kl_X11_155 rfl ?_
    -- at 19: .lreturn
    exact w_lret C dX11_strikes_19 (by decide) (by decide) (⟨rfl, rfl, rfl, rfl, rfl, rfl⟩)
  · have h2 : 0 ≤ a ∧ a < 24 := by
      rcases Decidable.em (0 ≤ a ∧ a < 24) with q | q
      · exact q
      · rw [if_neg q] at h1; exact absurd rfl h1
    rw [if_pos h2]
    refine w_aload_n (pc2 := 8) C dX11_strikes_7 rfl rfl ?_
    refine w_getR (pc2 := 11) C dX11_strikes_8 fl_X11_13 (by first | exact hy.k _ | assumption) (by first | exact hy.r _ _ | assumption) rfl ?_
    refine w_iload_n (pc2 := 12) C dX11_strikes_11 rfl rfl ?_
    -- at 12: .laload
    refine z_lald (pc2 := 13) (j := a.toNat) C dX11_strikes_12 (by first | exact hy.k _ | assumption) (by omega) (by omega) (by decide) rfl ?_
    refine w_goto (tgt := 19) C dX11_strikes_13 (by decide) ?_
    -- at 19: .lreturn
    exact w_lret C dX11_strikes_19 (by decide) (by decide) (⟨rfl, rfl, rfl, rfl, rfl, rfl⟩)
theorem s_X11_mend (hy : Ly K R) {a : Int} (ha : R32 a) : S_X11_mend [.ref 34, .int (iI a)] n K (zw J) L R (Det (some (.long (if 0 ≤ a ∧ a < 24 then L 36 a.toNat else -1))) n K (zw J) (if 0 ≤ a ∧ a < 24 then up2 L 36 a.toNat 0 else L) R) := by
  refine Sp_intro [some (.ref 34), some (.int (iI a)), none, none] rfl rfl (Nat.le_of_ble_eq_true rfl) rfl ?_
  intro Γ C
  replace C : C_X11_mend Γ := C
  refine w_iload_n (pc2 := 1) C dX11_mend_0 rfl rfl ?_
  -- at 1: .invokestatic 146
  refine w_cSi (pc2 := 4)  C dX11_mend_1 mb_X11_146 ms_X11_isBell (s_X11_isBell ha) rfl rfl (Nat.le_of_ble_eq_true rfl) ⟨by decide, by decide⟩ ⟨rfl, rfl⟩ ⟨by decide, by decide⟩ rfl ?_
  -- at 4: .ifCond .ne 7
  refine z_if_ne (pc2 := 7) (tgt := 11) C dX11_mend_4 (by decide) rfl (by split <;> omega) (fun h1 => ?_) (fun h1 => ?_)
  · have h2 : 0 ≤ a ∧ a < 24 := by
      rcases Decidable.em (0 ≤ a ∧ a < 24) with q | q
      · exact q
      · rw [if_neg q] at h1; exact absurd rfl h1
    refine w_aload_n (pc2 := 12) C dX11_mend_11 rfl rfl ?_
    refine w_getR (pc2 := 15) C dX11_mend_12 fl_X11_13 (by first | exact hy.k _ | assumption) (by first | exact hy.r _ _ | assumption) rfl ?_
    refine w_iload_n (pc2 := 16) C dX11_mend_15 rfl rfl ?_
    -- at 16: .laload
    refine z_lald (pc2 := 17) (j := a.toNat) C dX11_mend_16 (by first | exact hy.k _ | assumption) (by omega) (by omega) (by decide) rfl ?_
    refine w_lstore_n (pc2 := 18) C dX11_mend_17 rfl (by decide) rfl rfl ?_
    try dsimp only [List.set]
    refine w_aload_n (pc2 := 19) C dX11_mend_18 rfl rfl ?_
    refine w_getR (pc2 := 22) C dX11_mend_19 fl_X11_13 (by first | exact hy.k _ | assumption) (by first | exact hy.r _ _ | assumption) rfl ?_
    refine w_iload_n (pc2 := 23) C dX11_mend_22 rfl rfl ?_
    refine w_lconst (pc2 := 24) (v := 0) C dX11_mend_23 (by decide) rfl ?_
    -- at 24: .lastore
    refine z_last (pc2 := 25) (j := a.toNat) C dX11_mend_24 (by first | exact hy.k _ | assumption) (by omega) (by omega) (by decide) rfl ?_
    refine w_lload_n (pc2 := 26) C dX11_mend_25 rfl rfl ?_
    -- at 26: .lreturn
    exact w_lret C dX11_mend_26 (by decide) (by decide) (DetL (by rw [if_pos h2]) rfl (by rw [if_pos h2]))
  · have h2 : ¬ (0 ≤ a ∧ a < 24) := by
      intro q
      rw [if_pos q] at h1; exact absurd h1 (by decide)
    refine w_ldc2 (pc2 := 10) C dX11_mend_7 kl_X11_155 rfl ?_
    -- at 10: .lreturn
    exact w_lret C dX11_mend_10 (by decide) (by decide) (DetL (by rw [if_neg h2]) rfl (by rw [if_neg h2]))
theorem s_X11_worn (hy : Ly K R) {a : Int} (ha : R32 a) : S_X11_worn [.ref 34, .int (iI a)] n K (zw J) L R (Det (some (.int (iI (if a < 1 then -1 else cntN (wornB L 36 a) 24)))) n K (zw J) L R) := by
  refine Sp_intro [some (.ref 34), some (.int (iI a)), none, none] rfl rfl (Nat.le_of_ble_eq_true rfl) rfl ?_
  intro Γ C
  replace C : C_X11_worn Γ := C
  have key : 1 ≤ a → ∀ (d j : Nat), j + d = 24 → wp Γ 0 0 (QQ Γ (Det (some (.int (iI (if a < 1 then -1 else cntN (wornB L 36 a) 24)))) n K (zw J) L R)) 11 [some (.ref 34), some (.int (iI a)), some (.int (iI (cntN (wornB L 36 a) j))), some (.int (iI j))] [] n K (zw J) L R := by
    intro ha1 d
    induction d with
    | zero =>
      intro j hj
      refine w_iload_n (pc2 := 12) C dX11_worn_11 rfl rfl ?_
      refine w_bipush (pc2 := 14) (v := iI 24) C dX11_worn_12 (by decide) rfl ?_
      -- at 14: .if_icmp .ge 24
      refine z_icmp_ge (pc2 := 17) (tgt := 38) C dX11_worn_14 (by decide) rfl (by omega) (by omega) (fun h1 => ?_) (fun h1 => ?_)
      · skip
        refine w_iload_n (pc2 := 39) C dX11_worn_38 rfl rfl ?_
        -- at 39: .ireturn
        exact w_iret C dX11_worn_39 (by decide) (by decide) (DetI (by rw [if_neg (by omega), show j = 24 by omega]) rfl)
      · exact absurd hj (by omega)
    | succ d ih =>
      intro j hj
      have hc := cntN_le (wornB L 36 a) j
      refine w_iload_n (pc2 := 12) C dX11_worn_11 rfl rfl ?_
      refine w_bipush (pc2 := 14) (v := iI 24) C dX11_worn_12 (by decide) rfl ?_
      -- at 14: .if_icmp .ge 24
      refine z_icmp_ge (pc2 := 17) (tgt := 38) C dX11_worn_14 (by decide) rfl (by omega) (by omega) (fun h1 => ?_) (fun h1 => ?_)
      · exact absurd hj (by omega)
      · skip
        refine w_aload_n (pc2 := 18) C dX11_worn_17 rfl rfl ?_
        refine w_getR (pc2 := 21) C dX11_worn_18 fl_X11_13 (by first | exact hy.k _ | assumption) (by first | exact hy.r _ _ | assumption) rfl ?_
        refine w_iload_n (pc2 := 22) C dX11_worn_21 rfl rfl ?_
        -- at 22: .laload
        refine z_lald (pc2 := 23) (j := j) C dX11_worn_22 (by first | exact hy.k _ | assumption) (by omega) (by omega) (by decide) rfl ?_
        refine w_iload_n (pc2 := 24) C dX11_worn_23 rfl rfl ?_
        refine w_i2l (pc2 := 25) C dX11_worn_24 rfl ?_
        refine w_lcmp (pc2 := 26) C dX11_worn_25 rfl ?_
        -- at 26: .ifCond .lt 6
        rw [lg_cmp_lt0]
        refine z_if_lt (pc2 := 29) (tgt := 32) C dX11_worn_26 (by decide) rfl (by split <;> (try split) <;> omega) (fun h2 => ?_) (fun h2 => ?_)
        · have h3 : wornB L 36 a j = false := by
            simp only [wornB, decide_eq_false_iff_not, Int64.not_le]
            by_cases q : (iI a).toInt64 < L 36 j
            · rw [if_pos q] at h2; exact absurd h2 (by omega)
            · by_cases q2 : L 36 j = (iI a).toInt64
              · rw [if_neg q, if_pos q2] at h2; exact absurd h2 (by omega)
              · exact Int64.lt_iff_le_and_ne.mpr ⟨Int64.not_lt.mp q, q2⟩
          refine w_iinc (pc2 := 35) C dX11_worn_32 rfl (iI_add _ _) rfl (by decide) rfl rfl ?_
          try dsimp only [List.set]
          refine w_goto (tgt := 11) C dX11_worn_35 (by decide) ?_
          -- at 11: .iload_n 3
          have e : cntN (wornB L 36 a) (j + 1) = cntN (wornB L 36 a) j := by simp [cntN, h3]
          have := ih (j + 1) (by omega)
          rw [e] at this
          exact this
        · have h3 : wornB L 36 a j = true := by
            simp only [wornB, decide_eq_true_eq]
            by_cases q : (iI a).toInt64 < L 36 j
            · exact Int64.le_of_lt q
            · by_cases q2 : L 36 j = (iI a).toInt64
              · rw [q2]; exact Int64.le_refl _
              · rw [if_neg q, if_neg q2] at h2; exact absurd h2 (by omega)
          refine w_iinc (pc2 := 32) C dX11_worn_29 rfl (iI_add _ _) rfl (by decide) rfl rfl ?_
          try dsimp only [List.set]
          refine w_iinc (pc2 := 35) C dX11_worn_32 rfl (iI_add _ _) rfl (by decide) rfl rfl ?_
          try dsimp only [List.set]
          refine w_goto (tgt := 11) C dX11_worn_35 (by decide) ?_
          -- at 11: .iload_n 3
          have e : cntN (wornB L 36 a) (j + 1) = cntN (wornB L 36 a) j + 1 := by simp [cntN, h3]
          have := ih (j + 1) (by omega)
          rw [e] at this
          exact this
  refine w_iload_n (pc2 := 1) C dX11_worn_0 rfl rfl ?_
  refine w_iconst (pc2 := 2) (v := iI 1) C dX11_worn_1 (by decide) rfl ?_
  -- at 2: .if_icmp .ge 5
  refine z_icmp_ge (pc2 := 5) (tgt := 7) C dX11_worn_2 (by decide) rfl (by omega) (by omega) (fun h1 => ?_) (fun h1 => ?_)
  · skip
    refine w_iconst (pc2 := 8) (v := iI 0) C dX11_worn_7 (by decide) rfl ?_
    refine w_istore_n (pc2 := 9) C dX11_worn_8 rfl (by decide) rfl rfl ?_
    try dsimp only [List.set]
    refine w_iconst (pc2 := 10) (v := iI 0) C dX11_worn_9 (by decide) rfl ?_
    refine w_istore_n (pc2 := 11) C dX11_worn_10 rfl (by decide) rfl rfl ?_
    try dsimp only [List.set]
    -- at 11: .iload_n 3
    exact key h1 24 0 (by omega)
  · skip
    refine w_iconst (pc2 := 6) (v := iI (-1)) C dX11_worn_5 (by decide) rfl ?_
    -- at 6: .ireturn
    exact w_iret C dX11_worn_6 (by decide) (by decide) (DetI (by rw [if_pos (by omega)]) rfl)
theorem s_X11_end (hy : Ly K R) {a : Int} (ha : R32 a) (hb : R32 (J 34 4)) : S_X11_end [.ref 34, .int (iI a)] n K (zw J) L R (Det (some (.int (iI (if 0 ≤ a ∧ a ≤ J 34 4 then 1 else 0)))) n K (zw (if 0 ≤ a ∧ a ≤ J 34 4 then up2 J 34 4 a else J)) L R) := by
  refine Sp_intro [some (.ref 34), some (.int (iI a))] rfl rfl (Nat.le_of_ble_eq_true rfl) rfl ?_
  intro Γ C
  replace C : C_X11_end Γ := C
  refine w_iload_n (pc2 := 1) C dX11_end_0 rfl rfl ?_
  -- at 1: .ifCond .lt 11
  refine z_if_lt (pc2 := 4) (tgt := 12) C dX11_end_1 (by decide) rfl (by omega) (fun h1 => ?_) (fun h1 => ?_)
  · rw [if_neg (by omega), if_neg (by omega)]
    refine w_iconst (pc2 := 13) (v := iI 0) C dX11_end_12 (by decide) rfl ?_
    -- at 13: .ireturn
    exact w_zret C dX11_end_13 (Or.inl rfl) (by decide) (by decide) (DetI rfl rfl)
  · skip
    refine w_iload_n (pc2 := 5) C dX11_end_4 rfl rfl ?_
    refine w_aload_n (pc2 := 6) C dX11_end_5 rfl rfl ?_
    refine z_getI (pc2 := 9) C dX11_end_6 fl_X11_52 (by first | exact hy.k _ | assumption) rfl ?_
    -- at 9: .if_icmp .le 5
    refine z_icmp_le (pc2 := 12) (tgt := 14) C dX11_end_9 (by decide) rfl (by omega) (by omega) (fun h2 => ?_) (fun h2 => ?_)
    · rw [if_pos (by omega), if_pos (by omega)]
      refine w_aload_n (pc2 := 15) C dX11_end_14 rfl rfl ?_
      refine w_iload_n (pc2 := 16) C dX11_end_15 rfl rfl ?_
      refine z_putI (pc2 := 19) C dX11_end_16 fl_X11_52 (by first | exact hy.k _ | assumption) (by rfl) (by rfl) rfl ?_
      refine w_iconst (pc2 := 20) (v := iI 1) C dX11_end_19 (by decide) rfl ?_
      -- at 20: .ireturn
      exact w_zret C dX11_end_20 (Or.inr rfl) (by decide) (by decide) (DetI rfl rfl)
    · rw [if_neg (by omega), if_neg (by omega)]
      refine w_iconst (pc2 := 13) (v := iI 0) C dX11_end_12 (by decide) rfl ?_
      -- at 13: .ireturn
      exact w_zret C dX11_end_13 (Or.inl rfl) (by decide) (by decide) (DetI rfl rfl)
theorem s_X11_pin (hy : Ly K R) {pm : Nat → Nat} {s : Nat} (hs : J 35 229 = s) (hs2 : s ≤ 2063) (hp : ∀ i, i < s → J 35 (233 + i) = (pm i : Nat) ∧ pm i < 2 ^ 24) {a b : Int} (ha : R32 a) (hb : R32 b) : S_X11_pin [.ref 34, .int (iI a), .int (iI b)] n K (zw J) L R (Det (some (.int (iI (if (0 ≤ a ∧ a < s) ∧ 0 ≤ b ∧ b < 24 then (if (pm a.toNat).testBit b.toNat = true then 1 else 0) else -1)))) n K (zw J) L R) := by
  refine Sp_intro [some (.ref 34), some (.int (iI a)), some (.int (iI b))] rfl rfl (Nat.le_of_ble_eq_true rfl) rfl ?_
  intro Γ C
  replace C : C_X11_pin Γ := C
  refine w_iload_n (pc2 := 1) C dX11_pin_0 rfl rfl ?_
  -- at 1: .ifCond .lt 39
  refine z_if_lt (pc2 := 4) (tgt := 40) C dX11_pin_1 (by decide) rfl (by omega) (fun h1 => ?_) (fun h1 => ?_)
  · skip
    refine w_iconst (pc2 := 41) (v := iI (-1)) C dX11_pin_40 (by decide) rfl ?_
    -- at 41: .ireturn
    exact w_iret C dX11_pin_41 (by decide) (by decide) (DetI (by rw [if_neg (by omega)]) rfl)
  · skip
    refine w_iload_n (pc2 := 5) C dX11_pin_4 rfl rfl ?_
    refine w_aload_n (pc2 := 6) C dX11_pin_5 rfl rfl ?_
    refine w_getR (pc2 := 9) C dX11_pin_6 fl_X11_7 (by first | exact hy.k _ | assumption) (by first | exact hy.r _ _ | assumption) rfl ?_
    refine w_sipush (pc2 := 12) (v := iI 229) C dX11_pin_9 (by decide) rfl ?_
    -- at 12: .iaload
    refine z_iald (pc2 := 13) (j := 229) C dX11_pin_12 (by first | exact hy.k _ | assumption) (by omega) (by omega) (by decide) rfl ?_
    rw [hs]
    refine z_icmp_ge (pc2 := 16) (tgt := 40) C dX11_pin_13 (by decide) rfl (by omega) (by omega) (fun h2 => ?_) (fun h2 => ?_)
    · skip
      refine w_iconst (pc2 := 41) (v := iI (-1)) C dX11_pin_40 (by decide) rfl ?_
      -- at 41: .ireturn
      exact w_iret C dX11_pin_41 (by decide) (by decide) (DetI (by rw [if_neg (by omega)]) rfl)
    · skip
      refine w_iload_n (pc2 := 17) C dX11_pin_16 rfl rfl ?_
      -- at 17: .invokestatic 146
      refine w_cSi (pc2 := 20)  C dX11_pin_17 mb_X11_146 ms_X11_isBell (s_X11_isBell hb) rfl rfl (Nat.le_of_ble_eq_true rfl) ⟨by decide, by decide⟩ ⟨rfl, rfl⟩ ⟨by decide, by decide⟩ rfl ?_
      -- at 20: .ifCond .eq 20
      refine z_if_eq (pc2 := 23) (tgt := 40) C dX11_pin_20 (by decide) rfl (by split <;> omega) (fun h3 => ?_) (fun h3 => ?_)
      · have h4 : ¬ (0 ≤ b ∧ b < 24) := fun q => by rw [if_pos q] at h3; exact absurd h3 (by decide)
        refine w_iconst (pc2 := 41) (v := iI (-1)) C dX11_pin_40 (by decide) rfl ?_
        -- at 41: .ireturn
        exact w_iret C dX11_pin_41 (by decide) (by decide) (DetI (by rw [if_neg (by omega)]) rfl)
      · have h4 : 0 ≤ b ∧ b < 24 := by
          rcases Decidable.em (0 ≤ b ∧ b < 24) with q | q
          · exact q
          · rw [if_neg q] at h3; exact absurd rfl h3
        have h5 := hp a.toNat (by omega)
        rw [if_pos (by omega)]
        refine w_aload_n (pc2 := 24) C dX11_pin_23 rfl rfl ?_
        refine w_getR (pc2 := 27) C dX11_pin_24 fl_X11_7 (by first | exact hy.k _ | assumption) (by first | exact hy.r _ _ | assumption) rfl ?_
        refine w_sipush (pc2 := 30) (v := iI 233) C dX11_pin_27 (by decide) rfl ?_
        refine w_iload_n (pc2 := 31) C dX11_pin_30 rfl rfl ?_
        refine z_iadd (pc2 := 32) C dX11_pin_31 rfl ?_
        -- at 32: .iaload
        refine z_iald (pc2 := 33) (j := 233 + a.toNat) C dX11_pin_32 (by first | exact hy.k _ | assumption) (by omega) (by omega) (by decide) rfl ?_
        rw [h5.1]
        have eb : b = ((b.toNat : Nat) : Int) := by omega
        have e6 := bit01 (m := pm a.toNat) (b := b.toNat) h5.2 (by omega)
        rw [← eb] at e6
        refine w_iload_n (pc2 := 34) C dX11_pin_33 rfl rfl ?_
        refine w_ishr (pc2 := 35) C dX11_pin_34 rfl ?_
        refine w_iconst (pc2 := 36) (v := iI 1) C dX11_pin_35 (by decide) rfl ?_
        refine w_iand (pc2 := 37) C dX11_pin_36 rfl ?_
        refine w_goto (tgt := 41) C dX11_pin_37 (by decide) ?_
        -- at 41: .ireturn
        exact w_iret C dX11_pin_41 (by decide) (by decide) (DetI (by rw [e6]) rfl)
theorem s_X11_place {k l r : Int} : S_X11_place [.ref 34, .int (iI k), .int (iI l), .int (iI r)] n K (zw J) L R (Det (some (.int (iI ((k * 101 + l) * 101 + r)))) n K (zw J) L R) := by
  refine Sp_intro [some (.ref 34), some (.int (iI k)), some (.int (iI l)), some (.int (iI r))] rfl rfl (Nat.le_of_ble_eq_true rfl) rfl ?_
  intro Γ C
  replace C : C_X11_place Γ := C
  refine w_iload_n (pc2 := 1) C dX11_place_0 rfl rfl ?_
  refine w_bipush (pc2 := 3) (v := iI 101) C dX11_place_1 (by decide) rfl ?_
  refine z_imul (pc2 := 4) C dX11_place_3 rfl ?_
  refine w_iload_n (pc2 := 5) C dX11_place_4 rfl rfl ?_
  refine z_iadd (pc2 := 6) C dX11_place_5 rfl ?_
  refine w_bipush (pc2 := 8) (v := iI 101) C dX11_place_6 (by decide) rfl ?_
  refine z_imul (pc2 := 9) C dX11_place_8 rfl ?_
  refine w_iload_n (pc2 := 10) C dX11_place_9 rfl rfl ?_
  refine z_iadd (pc2 := 11) C dX11_place_10 rfl ?_
  -- at 11: .ireturn
  exact w_iret C dX11_place_11 (by decide) (by decide) (⟨rfl, rfl, rfl, rfl, rfl, rfl⟩)
theorem s_X11_stepOf (hy : Ly K R) {c k a s : Nat} (hm : MuR J c) (hk : k < c) (hs : J 35 229 = s) (hs1 : 1 ≤ s ∧ s ≤ 2063) (ha : a ≤ 3000) : S_X11_stepOf [.ref 34, .int (iI k), .int (iI a)] n K (zw J) L R (Det (some (.int (iI ((tR J k + a) % s)))) n K (zw J) L R) := by
  have hc2 := hm.2.1
  have g := hm.2.2 k hk
  refine Sp_intro [some (.ref 34), some (.int (iI k)), some (.int (iI a))] rfl rfl (Nat.le_of_ble_eq_true rfl) rfl ?_
  intro Γ C
  replace C : C_X11_stepOf Γ := C
  refine w_aload_n (pc2 := 1) C dX11_stepOf_0 rfl rfl ?_
  refine w_getR (pc2 := 4) C dX11_stepOf_1 fl_X11_7 (by first | exact hy.k _ | assumption) (by first | exact hy.r _ _ | assumption) rfl ?_
  refine w_iconst (pc2 := 5) (v := iI 2) C dX11_stepOf_4 (by decide) rfl ?_
  refine w_iload_n (pc2 := 6) C dX11_stepOf_5 rfl rfl ?_
  refine z_iadd (pc2 := 7) C dX11_stepOf_6 rfl ?_
  -- at 7: .iaload
  refine z_iald (pc2 := 8) (j := 2 + k) C dX11_stepOf_7 (by first | exact hy.k _ | assumption) (by omega) (by omega) (by decide) rfl ?_
  refine w_iload_n (pc2 := 9) C dX11_stepOf_8 rfl rfl ?_
  refine z_iadd (pc2 := 10) C dX11_stepOf_9 rfl ?_
  refine w_aload_n (pc2 := 11) C dX11_stepOf_10 rfl rfl ?_
  refine w_getR (pc2 := 14) C dX11_stepOf_11 fl_X11_7 (by first | exact hy.k _ | assumption) (by first | exact hy.r _ _ | assumption) rfl ?_
  refine w_sipush (pc2 := 17) (v := iI 229) C dX11_stepOf_14 (by decide) rfl ?_
  -- at 17: .iaload
  refine z_iald (pc2 := 18) (j := 229) C dX11_stepOf_17 (by first | exact hy.k _ | assumption) (by omega) (by omega) (by decide) rfl ?_
  rw [hs]
  refine z_irem (pc2 := 19) C dX11_stepOf_18 (by omega) rfl ?_
  exact w_iret C dX11_stepOf_19 (by decide) (by decide) (⟨rfl, rfl, rfl, rfl, rfl, rfl⟩)
def crR (J : wJn) (l r : Nat) : Int := if 0 < l ∧ 0 < r ∧ tR J (l - 1) = tR J (r - 1) ∧ bR J (r - 1) ≤ bR J (l - 1) then 1 else 0
theorem s_X11_isCrossed (hy : Ly K R) {c l r : Nat} (hm : MuR J c) (hl : l ≤ c) (hr : r ≤ c) : S_X11_isCrossed [.ref 34, .int (iI l), .int (iI r)] n K (zw J) L R (Det (some (.int (iI (crR J l r)))) n K (zw J) L R) := by
  have hc2 := hm.2.1
  refine Sp_intro [some (.ref 34), some (.int (iI l)), some (.int (iI r))] rfl rfl (Nat.le_of_ble_eq_true rfl) rfl ?_
  intro Γ C
  replace C : C_X11_isCrossed Γ := C
  refine w_iload_n (pc2 := 1) C dX11_isCrossed_0 rfl rfl ?_
  -- at 1: .ifCond .le 59
  refine z_if_le (pc2 := 4) (tgt := 60) C dX11_isCrossed_1 (by decide) rfl (by omega) (fun h1 => ?_) (fun h1 => ?_)
  · skip
    refine w_iconst (pc2 := 61) (v := iI 0) C dX11_isCrossed_60 (by decide) rfl ?_
    -- at 61: .ireturn
    exact w_zret C dX11_isCrossed_61 (Or.inl rfl) (by decide) (by decide) (DetI (by unfold crR; dsimp only [tR, bR]; rw [if_neg (by omega)]) rfl)
  · skip
    refine w_iload_n (pc2 := 5) C dX11_isCrossed_4 rfl rfl ?_
    -- at 5: .ifCond .le 55
    refine z_if_le (pc2 := 8) (tgt := 60) C dX11_isCrossed_5 (by decide) rfl (by omega) (fun h2 => ?_) (fun h2 => ?_)
    · skip
      refine w_iconst (pc2 := 61) (v := iI 0) C dX11_isCrossed_60 (by decide) rfl ?_
      -- at 61: .ireturn
      exact w_zret C dX11_isCrossed_61 (Or.inl rfl) (by decide) (by decide) (DetI (by unfold crR; dsimp only [tR, bR]; rw [if_neg (by omega)]) rfl)
    · have g1 := hm.2.2 (l - 1) (by omega)
      have g2 := hm.2.2 (r - 1) (by omega)
      refine w_aload_n (pc2 := 9) C dX11_isCrossed_8 rfl rfl ?_
      refine w_getR (pc2 := 12) C dX11_isCrossed_9 fl_X11_7 (by first | exact hy.k _ | assumption) (by first | exact hy.r _ _ | assumption) rfl ?_
      refine w_iconst (pc2 := 13) (v := iI 2) C dX11_isCrossed_12 (by decide) rfl ?_
      refine w_iload_n (pc2 := 14) C dX11_isCrossed_13 rfl rfl ?_
      refine z_iadd (pc2 := 15) C dX11_isCrossed_14 rfl ?_
      refine w_iconst (pc2 := 16) (v := iI 1) C dX11_isCrossed_15 (by decide) rfl ?_
      refine z_isub (pc2 := 17) C dX11_isCrossed_16 rfl ?_
      -- at 17: .iaload
      refine z_iald (pc2 := 18) (j := 2 + (l - 1)) C dX11_isCrossed_17 (by first | exact hy.k _ | assumption) (by omega) (by omega) (by decide) rfl ?_
      refine w_aload_n (pc2 := 19) C dX11_isCrossed_18 rfl rfl ?_
      refine w_getR (pc2 := 22) C dX11_isCrossed_19 fl_X11_7 (by first | exact hy.k _ | assumption) (by first | exact hy.r _ _ | assumption) rfl ?_
      refine w_iconst (pc2 := 23) (v := iI 2) C dX11_isCrossed_22 (by decide) rfl ?_
      refine w_iload_n (pc2 := 24) C dX11_isCrossed_23 rfl rfl ?_
      refine z_iadd (pc2 := 25) C dX11_isCrossed_24 rfl ?_
      refine w_iconst (pc2 := 26) (v := iI 1) C dX11_isCrossed_25 (by decide) rfl ?_
      refine z_isub (pc2 := 27) C dX11_isCrossed_26 rfl ?_
      -- at 27: .iaload
      refine z_iald (pc2 := 28) (j := 2 + (r - 1)) C dX11_isCrossed_27 (by first | exact hy.k _ | assumption) (by omega) (by omega) (by decide) rfl ?_
      refine z_icmp_ne (pc2 := 31) (tgt := 60) C dX11_isCrossed_28 (by decide) rfl (by omega) (by omega) (fun h3 => ?_) (fun h3 => ?_)
      · skip
        refine w_iconst (pc2 := 61) (v := iI 0) C dX11_isCrossed_60 (by decide) rfl ?_
        -- at 61: .ireturn
        exact w_zret C dX11_isCrossed_61 (Or.inl rfl) (by decide) (by decide) (DetI (by unfold crR; dsimp only [tR, bR]; rw [if_neg (by omega)]) rfl)
      · skip
        refine w_aload_n (pc2 := 32) C dX11_isCrossed_31 rfl rfl ?_
        refine w_getR (pc2 := 35) C dX11_isCrossed_32 fl_X11_7 (by first | exact hy.k _ | assumption) (by first | exact hy.r _ _ | assumption) rfl ?_
        refine w_bipush (pc2 := 37) (v := iI 102) C dX11_isCrossed_35 (by decide) rfl ?_
        refine w_iload_n (pc2 := 38) C dX11_isCrossed_37 rfl rfl ?_
        refine z_iadd (pc2 := 39) C dX11_isCrossed_38 rfl ?_
        refine w_iconst (pc2 := 40) (v := iI 1) C dX11_isCrossed_39 (by decide) rfl ?_
        refine z_isub (pc2 := 41) C dX11_isCrossed_40 rfl ?_
        -- at 41: .iaload
        refine z_iald (pc2 := 42) (j := 102 + (l - 1)) C dX11_isCrossed_41 (by first | exact hy.k _ | assumption) (by omega) (by omega) (by decide) rfl ?_
        refine w_aload_n (pc2 := 43) C dX11_isCrossed_42 rfl rfl ?_
        refine w_getR (pc2 := 46) C dX11_isCrossed_43 fl_X11_7 (by first | exact hy.k _ | assumption) (by first | exact hy.r _ _ | assumption) rfl ?_
        refine w_bipush (pc2 := 48) (v := iI 102) C dX11_isCrossed_46 (by decide) rfl ?_
        refine w_iload_n (pc2 := 49) C dX11_isCrossed_48 rfl rfl ?_
        refine z_iadd (pc2 := 50) C dX11_isCrossed_49 rfl ?_
        refine w_iconst (pc2 := 51) (v := iI 1) C dX11_isCrossed_50 (by decide) rfl ?_
        refine z_isub (pc2 := 52) C dX11_isCrossed_51 rfl ?_
        -- at 52: .iaload
        refine z_iald (pc2 := 53) (j := 102 + (r - 1)) C dX11_isCrossed_52 (by first | exact hy.k _ | assumption) (by omega) (by omega) (by decide) rfl ?_
        refine z_icmp_lt (pc2 := 56) (tgt := 60) C dX11_isCrossed_53 (by decide) rfl (by omega) (by omega) (fun h4 => ?_) (fun h4 => ?_)
        · skip
          refine w_iconst (pc2 := 61) (v := iI 0) C dX11_isCrossed_60 (by decide) rfl ?_
          -- at 61: .ireturn
          exact w_zret C dX11_isCrossed_61 (Or.inl rfl) (by decide) (by decide) (DetI (by unfold crR; dsimp only [tR, bR]; rw [if_neg (by omega)]) rfl)
        · skip
          refine w_iconst (pc2 := 57) (v := iI 1) C dX11_isCrossed_56 (by decide) rfl ?_
          refine w_goto (tgt := 61) C dX11_isCrossed_57 (by decide) ?_
          -- at 61: .ireturn
          exact w_zret C dX11_isCrossed_61 (Or.inr rfl) (by decide) (by decide) (DetI (by unfold crR; dsimp only [tR, bR]; rw [if_pos (by omega)]) rfl)
theorem s_X11_moves (hy : Ly K R) {c l k : Nat} {ρ : Int} (hm : MuR J c) (hl : l ≤ c) (hk : k < c) (h1 : 1 ≤ ρ ∧ ρ ≤ 24) : S_X11_moves [.ref 34, .int (iI l), .int (iI k), .int (iI ρ)] n K (zw J) L R (Det (some (.int (iI (mvF (tR J) (bR J) ρ l k)))) n K (zw J) L R) := by
  have hc2 := hm.2.1
  have g1 := hm.2.2 k hk
  refine Sp_intro [some (.ref 34), some (.int (iI l)), some (.int (iI k)), some (.int (iI ρ)), none, none] rfl rfl (Nat.le_of_ble_eq_true rfl) rfl ?_
  intro Γ C
  replace C : C_X11_moves Γ := C
  refine w_iload_n (pc2 := 1) C dX11_moves_0 rfl rfl ?_
  -- at 1: .ifCond .ne 5
  refine z_if_ne (pc2 := 4) (tgt := 6) C dX11_moves_1 (by decide) rfl (by omega) (fun h2 => ?_) (fun h2 => ?_)
  · have g2 := hm.2.2 (l - 1) (by omega)
    have hmv : mvF (tR J) (bR J) ρ l k = if J 35 (2 + k) - J 35 (2 + (l - 1)) < 1 ∨ ρ * (J 35 (2 + k) - J 35 (2 + (l - 1))) < ((J 35 (102 + k) - J 35 (102 + (l - 1))).natAbs : Int) then FAR else ((J 35 (102 + k) - J 35 (102 + (l - 1))).natAbs : Int) := by
      unfold mvF; rw [if_neg (by omega)]
    have b1 : -72000 ≤ ρ * (J 35 (2 + k) - J 35 (2 + (l - 1))) ∧ ρ * (J 35 (2 + k) - J 35 (2 + (l - 1))) ≤ 72000 := by
      have q1 := Int.mul_le_mul_of_nonneg_left (show -3000 ≤ J 35 (2 + k) - J 35 (2 + (l - 1)) by omega) (show 0 ≤ ρ by omega)
      have q2 := Int.mul_le_mul_of_nonneg_left (show J 35 (2 + k) - J 35 (2 + (l - 1)) ≤ 3000 by omega) (show 0 ≤ ρ by omega)
      omega
    have fin : ∀ w : Int, w = ((J 35 (102 + k) - J 35 (102 + (l - 1))).natAbs : Int) → wp Γ 0 0 (QQ Γ (Det (some (.int (iI (mvF (tR J) (bR J) ρ l k)))) n K (zw J) L R)) 60 [some (.ref 34), some (.int (iI l)), some (.int (iI k)), some (.int (iI ρ)), some (.int (iI (J 35 (2 + k) - J 35 (2 + (l - 1))))), some (.int (iI w))] [] n K (zw J) L R := by
      intro w hw
      refine w_iload (pc2 := 62) C dX11_moves_60 rfl rfl ?_
      refine w_iconst (pc2 := 63) (v := iI 1) C dX11_moves_62 (by decide) rfl ?_
      -- at 63: .if_icmp .lt 12
      refine z_icmp_lt (pc2 := 66) (tgt := 75) C dX11_moves_63 (by decide) rfl (by omega) (by omega) (fun h3 => ?_) (fun h3 => ?_)
      · skip
        refine w_ldc (pc2 := 77) C dX11_moves_75 kc_X11_120 rfl ?_
        refine w_goto (tgt := 82) C dX11_moves_77 (by decide) ?_
        -- at 82: .ireturn
        exact w_iret C dX11_moves_82 (by decide) (by decide) (DetI (by rw [hmv, if_pos (Or.inl h3)]; rfl) rfl)
      · skip
        refine w_iload (pc2 := 68) C dX11_moves_66 rfl rfl ?_
        refine w_iload_n (pc2 := 69) C dX11_moves_68 rfl rfl ?_
        refine w_iload (pc2 := 71) C dX11_moves_69 rfl rfl ?_
        refine z_imul (pc2 := 72) C dX11_moves_71 rfl ?_
        -- at 72: .if_icmp .le 8
        refine z_icmp_le (pc2 := 75) (tgt := 80) C dX11_moves_72 (by decide) rfl (by omega) (by omega) (fun h4 => ?_) (fun h4 => ?_)
        · skip
          refine w_iload (pc2 := 82) C dX11_moves_80 rfl rfl ?_
          -- at 82: .ireturn
          exact w_iret C dX11_moves_82 (by decide) (by decide) (DetI (by rw [hmv, if_neg (by omega), hw]) rfl)
        · skip
          refine w_ldc (pc2 := 77) C dX11_moves_75 kc_X11_120 rfl ?_
          refine w_goto (tgt := 82) C dX11_moves_77 (by decide) ?_
          -- at 82: .ireturn
          exact w_iret C dX11_moves_82 (by decide) (by decide) (DetI (by rw [hmv, if_pos (Or.inr (by omega))]; rfl) rfl)
    refine w_aload_n (pc2 := 7) C dX11_moves_6 rfl rfl ?_
    refine w_getR (pc2 := 10) C dX11_moves_7 fl_X11_7 (by first | exact hy.k _ | assumption) (by first | exact hy.r _ _ | assumption) rfl ?_
    refine w_iconst (pc2 := 11) (v := iI 2) C dX11_moves_10 (by decide) rfl ?_
    refine w_iload_n (pc2 := 12) C dX11_moves_11 rfl rfl ?_
    refine z_iadd (pc2 := 13) C dX11_moves_12 rfl ?_
    -- at 13: .iaload
    refine z_iald (pc2 := 14) (j := 2 + k) C dX11_moves_13 (by first | exact hy.k _ | assumption) (by omega) (by omega) (by decide) rfl ?_
    refine w_aload_n (pc2 := 15) C dX11_moves_14 rfl rfl ?_
    refine w_getR (pc2 := 18) C dX11_moves_15 fl_X11_7 (by first | exact hy.k _ | assumption) (by first | exact hy.r _ _ | assumption) rfl ?_
    refine w_iconst (pc2 := 19) (v := iI 2) C dX11_moves_18 (by decide) rfl ?_
    refine w_iload_n (pc2 := 20) C dX11_moves_19 rfl rfl ?_
    refine z_iadd (pc2 := 21) C dX11_moves_20 rfl ?_
    refine w_iconst (pc2 := 22) (v := iI 1) C dX11_moves_21 (by decide) rfl ?_
    refine z_isub (pc2 := 23) C dX11_moves_22 rfl ?_
    -- at 23: .iaload
    refine z_iald (pc2 := 24) (j := 2 + (l - 1)) C dX11_moves_23 (by first | exact hy.k _ | assumption) (by omega) (by omega) (by decide) rfl ?_
    refine z_isub (pc2 := 25) C dX11_moves_24 rfl ?_
    refine w_istore (pc2 := 27) C dX11_moves_25 rfl (by decide) rfl rfl ?_
    try dsimp only [List.set]
    refine w_aload_n (pc2 := 28) C dX11_moves_27 rfl rfl ?_
    refine w_getR (pc2 := 31) C dX11_moves_28 fl_X11_7 (by first | exact hy.k _ | assumption) (by first | exact hy.r _ _ | assumption) rfl ?_
    refine w_bipush (pc2 := 33) (v := iI 102) C dX11_moves_31 (by decide) rfl ?_
    refine w_iload_n (pc2 := 34) C dX11_moves_33 rfl rfl ?_
    refine z_iadd (pc2 := 35) C dX11_moves_34 rfl ?_
    -- at 35: .iaload
    refine z_iald (pc2 := 36) (j := 102 + k) C dX11_moves_35 (by first | exact hy.k _ | assumption) (by omega) (by omega) (by decide) rfl ?_
    refine w_aload_n (pc2 := 37) C dX11_moves_36 rfl rfl ?_
    refine w_getR (pc2 := 40) C dX11_moves_37 fl_X11_7 (by first | exact hy.k _ | assumption) (by first | exact hy.r _ _ | assumption) rfl ?_
    refine w_bipush (pc2 := 42) (v := iI 102) C dX11_moves_40 (by decide) rfl ?_
    refine w_iload_n (pc2 := 43) C dX11_moves_42 rfl rfl ?_
    refine z_iadd (pc2 := 44) C dX11_moves_43 rfl ?_
    refine w_iconst (pc2 := 45) (v := iI 1) C dX11_moves_44 (by decide) rfl ?_
    refine z_isub (pc2 := 46) C dX11_moves_45 rfl ?_
    -- at 46: .iaload
    refine z_iald (pc2 := 47) (j := 102 + (l - 1)) C dX11_moves_46 (by first | exact hy.k _ | assumption) (by omega) (by omega) (by decide) rfl ?_
    refine z_isub (pc2 := 48) C dX11_moves_47 rfl ?_
    refine w_istore (pc2 := 50) C dX11_moves_48 rfl (by decide) rfl rfl ?_
    try dsimp only [List.set]
    refine w_iload (pc2 := 52) C dX11_moves_50 rfl rfl ?_
    -- at 52: .ifCond .ge 8
    refine z_if_ge (pc2 := 55) (tgt := 60) C dX11_moves_52 (by decide) rfl (by omega) (fun h3 => ?_) (fun h3 => ?_)
    · exact fin _ (by show J 35 (102 + k) - J 35 (102 + (l - 1)) = _; change 0 ≤ J 35 (102 + k) - J 35 (102 + (l - 1)) at h3; omega)
    · skip
      refine w_iload (pc2 := 57) C dX11_moves_55 rfl rfl ?_
      refine z_ineg (pc2 := 58) C dX11_moves_57 rfl ?_
      refine w_istore (pc2 := 60) C dX11_moves_58 rfl (by decide) rfl rfl ?_
      try dsimp only [List.set]
      -- at 60: .iload 4
      exact fin _ (by show -(J 35 (102 + k) - J 35 (102 + (l - 1))) = _; change ¬ 0 ≤ J 35 (102 + k) - J 35 (102 + (l - 1)) at h3; omega)
  · skip
    refine w_iconst (pc2 := 5) (v := iI 0) C dX11_moves_4 (by decide) rfl ?_
    -- at 5: .ireturn
    exact w_iret C dX11_moves_5 (by decide) (by decide) (DetI (by unfold mvF; rw [if_pos (by omega)]) rfl)
end REF1
