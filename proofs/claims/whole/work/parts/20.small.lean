/-! ===== small methods of the class ===== -/
section SMALL
variable {n : Nat} {K : wKd} {J : wJn} {L : wLn} {R : wRf}
theorem s_X7_hasRoom (hy : Ly K R) (h1 : 0 ≤ J 1 1) (h2 : J 1 1 ≤ 1000) : S_X7_hasRoom [.ref 1] n K (zw J) L R (Det (some (.int (if J 1 1 + 20 ≤ 1000 then 1 else 0))) n K (zw J) L R) := by
  refine Sp_intro [some (.ref 1)] rfl rfl (Nat.le_of_ble_eq_true rfl) rfl ?_
  intro Γ C
  replace C : C_X7_hasRoom Γ := C
  refine w_aload_n (pc2 := 1) C dX7_hasRoom_0 rfl rfl ?_
  refine z_getI (pc2 := 4) C dX7_hasRoom_1 fl_X7_15 (by first | exact hy.k _ | assumption) rfl ?_
  refine w_bipush (pc2 := 6) (v := iI 20) C dX7_hasRoom_4 (by decide) rfl ?_
  refine z_iadd (pc2 := 7) C dX7_hasRoom_6 rfl ?_
  refine w_sipush (pc2 := 10) (v := iI 1000) C dX7_hasRoom_7 (by decide) rfl ?_
  -- at 10: .if_icmp .gt 7
  refine z_icmp_gt (pc2 := 13) (tgt := 17) C dX7_hasRoom_10 (by decide) rfl (by omega) (by omega) (fun hb => ?_) (fun hb => ?_)
  · skip
    refine w_iconst (pc2 := 18) (v := iI 0) C dX7_hasRoom_17 (by decide) rfl ?_
    -- at 18: .ireturn
    exact w_zret C dX7_hasRoom_18 (Or.inl rfl) (by decide) (by decide) (DetI (by rw [if_neg (by omega)]; rfl) rfl)
  · skip
    refine w_iconst (pc2 := 14) (v := iI 1) C dX7_hasRoom_13 (by decide) rfl ?_
    refine w_goto (tgt := 18) C dX7_hasRoom_14 (by decide) ?_
    -- at 18: .ireturn
    exact w_zret C dX7_hasRoom_18 (Or.inr rfl) (by decide) (by decide) (DetI (by rw [if_pos (by omega)]; rfl) rfl)
theorem s_X10_isBell {b : Int} (hb : R32 b) : S_X10_isBell [.int (iI b)] n K (zw J) L R (Det (some (.int (if 0 ≤ b ∧ b < 24 then 1 else 0))) n K (zw J) L R) := by
  refine Sp_intro [some (.int (iI b))] rfl rfl (Nat.le_of_ble_eq_true rfl) rfl ?_
  intro Γ C
  replace C : C_X10_isBell Γ := C
  refine w_iload_n (pc2 := 1) C dX10_isBell_0 rfl rfl ?_
  -- at 1: .ifCond .lt 13
  refine z_if_lt (pc2 := 4) (tgt := 14) C dX10_isBell_1 (by decide) rfl (by omega) (fun h1 => ?_) (fun h1 => ?_)
  · skip
    refine w_iconst (pc2 := 15) (v := iI 0) C dX10_isBell_14 (by decide) rfl ?_
    -- at 15: .ireturn
    exact w_zret C dX10_isBell_15 (Or.inl rfl) (by decide) (by decide) (DetI (by rw [if_neg (by omega)]; rfl) rfl)
  · skip
    refine w_iload_n (pc2 := 5) C dX10_isBell_4 rfl rfl ?_
    refine w_bipush (pc2 := 7) (v := iI 24) C dX10_isBell_5 (by decide) rfl ?_
    -- at 7: .if_icmp .ge 7
    refine z_icmp_ge (pc2 := 10) (tgt := 14) C dX10_isBell_7 (by decide) rfl (by omega) (by omega) (fun h2 => ?_) (fun h2 => ?_)
    · skip
      refine w_iconst (pc2 := 15) (v := iI 0) C dX10_isBell_14 (by decide) rfl ?_
      -- at 15: .ireturn
      exact w_zret C dX10_isBell_15 (Or.inl rfl) (by decide) (by decide) (DetI (by rw [if_neg (by omega)]; rfl) rfl)
    · skip
      refine w_iconst (pc2 := 11) (v := iI 1) C dX10_isBell_10 (by decide) rfl ?_
      refine w_goto (tgt := 15) C dX10_isBell_11 (by decide) ?_
      -- at 15: .ireturn
      exact w_zret C dX10_isBell_15 (Or.inr rfl) (by decide) (by decide) (DetI (by rw [if_pos (by omega)]; rfl) rfl)
theorem s_X5_has {b : Nat} (hk : K b = (5, 0)) {k : Int} (h : R32 k) (hs : R32 (J b 2)) : S_X5_has [.ref b, .int (iI k)] n K (zw J) L R (Det (some (.int (if 0 ≤ k ∧ k < J b 2 then 1 else 0))) n K (zw J) L R) := by
  refine Sp_intro [some (.ref b), some (.int (iI k))] rfl rfl (Nat.le_of_ble_eq_true rfl) rfl ?_
  intro Γ C
  replace C : C_X5_has Γ := C
  refine w_iload_n (pc2 := 1) C dX5_has_0 rfl rfl ?_
  -- at 1: .ifCond .lt 15
  refine z_if_lt (pc2 := 4) (tgt := 16) C dX5_has_1 (by decide) rfl (by omega) (fun h1 => ?_) (fun h1 => ?_)
  · skip
    refine w_iconst (pc2 := 17) (v := iI 0) C dX5_has_16 (by decide) rfl ?_
    -- at 17: .ireturn
    exact w_zret C dX5_has_17 (Or.inl rfl) (by decide) (by decide) (DetI (by rw [if_neg (by omega)]; rfl) rfl)
  · skip
    refine w_iload_n (pc2 := 5) C dX5_has_4 rfl rfl ?_
    refine w_aload_n (pc2 := 6) C dX5_has_5 rfl rfl ?_
    refine z_getI (pc2 := 9) C dX5_has_6 fl_X5_18 (by first | exact hy.k _ | assumption) rfl ?_
    -- at 9: .if_icmp .ge 7
    refine z_icmp_ge (pc2 := 12) (tgt := 16) C dX5_has_9 (by decide) rfl (by omega) (by omega) (fun h2 => ?_) (fun h2 => ?_)
    · skip
      refine w_iconst (pc2 := 17) (v := iI 0) C dX5_has_16 (by decide) rfl ?_
      -- at 17: .ireturn
      exact w_zret C dX5_has_17 (Or.inl rfl) (by decide) (by decide) (DetI (by rw [if_neg (by omega)]; rfl) rfl)
    · skip
      refine w_iconst (pc2 := 13) (v := iI 1) C dX5_has_12 (by decide) rfl ?_
      refine w_goto (tgt := 17) C dX5_has_13 (by decide) ?_
      -- at 17: .ireturn
      exact w_zret C dX5_has_17 (Or.inr rfl) (by decide) (by decide) (DetI (by rw [if_pos (by omega)]; rfl) rfl)
end SMALL
