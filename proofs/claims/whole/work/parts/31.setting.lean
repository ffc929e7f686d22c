/-! ===== THE SETTING, by the class ===== -/
abbrev LJ (J : wJn) : Nat → Nat → Nat → Int := LCc (J 13) (J 14) (J 24 6)
abbrev RJ (J : wJn) : Nat → Nat → Nat → Int := RCc (J 13) (J 14) (J 24 6)
abbrev mJ (J : wJn) : Nat → Nat → Int := mvF (J 13) (J 14) (J 24 6)
abbrev oJ (J : wJn) (c : Nat) : Nat → Nat → Nat → Int := opt c (LJ J) (RJ J) (J 24 7)
def neg1 (x : Int) : Int := if x < FAR then x else -1
/-- REACH and PRICE are as they should be -/
def RP (J : wJn) : Prop := 1 ≤ J 24 6 ∧ J 24 6 ≤ 24 ∧ 0 ≤ J 24 7 ∧ J 24 7 ≤ 10000
theorem okL {J : wJn} {c : Nat} (hm : Mus J c) : okC c (LJ J) := fun k l r hk hl hr => LCc_bd (fun i hi => by have := hm.2.2 i (by omega); omega)
theorem okR {J : wJn} {c : Nat} (hm : Mus J c) : okC c (RJ J) := fun k l r hk hl hr => mvF_bd (fun i hi => by have := hm.2.2 i (by omega); omega)
theorem sp_lt {l r : Nat} (h1 : l ≤ 100) (h2 : r ≤ 100) : l * 101 + r < 10201 := by omega
section SETTING
variable {n : Nat} {K : wKd} {J : wJn} {L : wLn} {R : wRf}
theorem s_X6_spot {a b : Int} : S_X6_spot [.int (iI a), .int (iI b)] n K (zw J) L R (Det (some (.int (iI ((a + 1) * 101 + b + 1)))) n K (zw J) L R) := by
  refine Sp_intro [some (.int (iI a)), some (.int (iI b))] rfl rfl (Nat.le_of_ble_eq_true rfl) rfl ?_
  intro Γ C
  replace C : C_X6_spot Γ := C
  refine w_iload_n (pc2 := 1) C dX6_spot_0 rfl rfl ?_
  refine w_iconst (pc2 := 2) (v := iI 1) C dX6_spot_1 (by decide) rfl ?_
  refine z_iadd (pc2 := 3) C dX6_spot_2 rfl ?_
  refine w_bipush (pc2 := 5) (v := iI 101) C dX6_spot_3 (by decide) rfl ?_
  refine z_imul (pc2 := 6) C dX6_spot_5 rfl ?_
  refine w_iload_n (pc2 := 7) C dX6_spot_6 rfl rfl ?_
  refine z_iadd (pc2 := 8) C dX6_spot_7 rfl ?_
  refine w_iconst (pc2 := 9) (v := iI 1) C dX6_spot_8 (by decide) rfl ?_
  refine z_iadd (pc2 := 10) C dX6_spot_9 rfl ?_
  -- at 10: .ireturn
  exact w_iret C dX6_spot_10 (by decide) (by decide) (⟨rfl, rfl, rfl, rfl, rfl, rfl⟩)
theorem s_X6_moveTo (hy : Ly K R) {c l k : Nat} (hm : Mus J c) (hr : RP J) (hl : l ≤ c) (hk : k < c) : S_X6_moveTo [.ref 24, .int (iI ((l : Int) - 1)), .int (iI k)] n K (zw J) L R (Det (some (.int (iI (neg1 (mJ J l k))))) n K (zw J) L R) := by
  have hc2 := hm.2.1
  obtain ⟨r1, r2, r3, r4⟩ := hr
  have g1 := hm.2.2 k hk
  refine Sp_intro [some (.ref 24), some (.int (iI ((l : Int) - 1))), some (.int (iI k)), none, none] rfl rfl (Nat.le_of_ble_eq_true rfl) rfl ?_
  intro Γ C
  replace C : C_X6_moveTo Γ := C
  refine w_iload_n (pc2 := 1) C dX6_moveTo_0 rfl rfl ?_
  refine w_iconst (pc2 := 2) (v := iI (-1)) C dX6_moveTo_1 (by decide) rfl ?_
  -- at 2: .if_icmp .ne 5
  refine z_icmp_ne (pc2 := 5) (tgt := 7) C dX6_moveTo_2 (by decide) rfl (by omega) (by omega) (fun h1 => ?_) (fun h1 => ?_)
  · have g2 := hm.2.2 (l - 1) (by omega)
    have e : ((l : Int) - 1) = ((l - 1 : Nat) : Int) := by omega
    rw [e]
    refine w_aload_n (pc2 := 8) C dX6_moveTo_7 rfl rfl ?_
    refine w_getR (pc2 := 11) C dX6_moveTo_8 fl_X6_21 (by first | exact hy.k _ | assumption) (by first | exact hy.r _ _ | assumption) rfl ?_
    refine w_getR (pc2 := 14) C dX6_moveTo_11 fl_X6_62 (by first | exact hy.k _ | assumption) (by first | exact hy.r _ _ | assumption) rfl ?_
    refine w_iload_n (pc2 := 15) C dX6_moveTo_14 rfl rfl ?_
    -- at 15: .iaload
    refine z_iald (pc2 := 16) (j := k) C dX6_moveTo_15 (by first | exact hy.k _ | assumption) (by omega) (by omega) (by decide) rfl ?_
    refine w_aload_n (pc2 := 17) C dX6_moveTo_16 rfl rfl ?_
    refine w_getR (pc2 := 20) C dX6_moveTo_17 fl_X6_21 (by first | exact hy.k _ | assumption) (by first | exact hy.r _ _ | assumption) rfl ?_
    refine w_getR (pc2 := 23) C dX6_moveTo_20 fl_X6_62 (by first | exact hy.k _ | assumption) (by first | exact hy.r _ _ | assumption) rfl ?_
    refine w_iload_n (pc2 := 24) C dX6_moveTo_23 rfl rfl ?_
    -- at 24: .iaload
    refine z_iald (pc2 := 25) (j := l - 1) C dX6_moveTo_24 (by first | exact hy.k _ | assumption) (by omega) (by omega) (by decide) rfl ?_
    refine z_isub (pc2 := 26) C dX6_moveTo_25 rfl ?_
    refine w_istore_n (pc2 := 27) C dX6_moveTo_26 rfl (by decide) rfl rfl ?_
    try dsimp only [List.set]
    refine w_aload_n (pc2 := 28) C dX6_moveTo_27 rfl rfl ?_
    refine w_getR (pc2 := 31) C dX6_moveTo_28 fl_X6_21 (by first | exact hy.k _ | assumption) (by first | exact hy.r _ _ | assumption) rfl ?_
    refine w_iload_n (pc2 := 32) C dX6_moveTo_31 rfl rfl ?_
    refine w_iload_n (pc2 := 33) C dX6_moveTo_32 rfl rfl ?_
    -- at 33: .invokevirtual 68
    refine w_cVi (pc2 := 36)  C dX6_moveTo_33 mb_X6_68 mv_X5_bellsBetween (s_X5_bellsBetween hy hm (show l - 1 < c by omega) hk) (by first | exact hy.k _ | assumption) rfl (by decide) rfl rfl (Nat.le_of_ble_eq_true rfl) ⟨by decide, by decide⟩ ⟨rfl, rfl⟩ ⟨by decide, by decide⟩ rfl ?_
    refine w_istore (pc2 := 38) C dX6_moveTo_36 rfl (by decide) rfl rfl ?_
    try dsimp only [List.set]
    refine w_iload_n (pc2 := 39) C dX6_moveTo_38 rfl rfl ?_
    refine w_iconst (pc2 := 40) (v := iI 1) C dX6_moveTo_39 (by decide) rfl ?_
    -- at 40: .if_icmp .lt 14
    have b1 : -72000 ≤ J 24 6 * (J 13 k - J 13 (l - 1)) ∧ J 24 6 * (J 13 k - J 13 (l - 1)) ≤ 72000 := by
      constructor
      · have := Int.mul_le_mul_of_nonneg_left (show -3000 ≤ J 13 k - J 13 (l - 1) by omega) (show 0 ≤ J 24 6 by omega)
        omega
      · have := Int.mul_le_mul_of_nonneg_left (show J 13 k - J 13 (l - 1) ≤ 3000 by omega) (show 0 ≤ J 24 6 by omega)
        omega
    refine z_icmp_lt (pc2 := 43) (tgt := 54) C dX6_moveTo_40 (by decide) rfl (by omega) (by omega) (fun h2 => ?_) (fun h2 => ?_)
    · skip
      refine w_iconst (pc2 := 55) (v := iI (-1)) C dX6_moveTo_54 (by decide) rfl ?_
      refine w_goto (tgt := 60) C dX6_moveTo_55 (by decide) ?_
      -- at 60: .ireturn
      have e2 : mJ J l k = FAR := by
        unfold mJ mvF
        rw [if_neg (show ¬ l = 0 by omega)]
        exact if_pos (Or.inl h2)
      exact w_iret C dX6_moveTo_60 (by decide) (by decide) (DetI (by rw [e2]; rfl) rfl)
    · skip
      refine w_iload (pc2 := 45) C dX6_moveTo_43 rfl rfl ?_
      refine w_aload_n (pc2 := 46) C dX6_moveTo_45 rfl rfl ?_
      refine z_getI (pc2 := 49) C dX6_moveTo_46 fl_X6_25 (by first | exact hy.k _ | assumption) rfl ?_
      refine w_iload_n (pc2 := 50) C dX6_moveTo_49 rfl rfl ?_
      refine z_imul (pc2 := 51) C dX6_moveTo_50 rfl ?_
      -- at 51: .if_icmp .le 7
      refine z_icmp_le (pc2 := 54) (tgt := 58) C dX6_moveTo_51 (by decide) rfl (by omega) (by omega) (fun h3 => ?_) (fun h3 => ?_)
      · skip
        refine w_iload (pc2 := 60) C dX6_moveTo_58 rfl rfl ?_
        -- at 60: .ireturn
        have e2 : mJ J l k = ((J 14 k - J 14 (l - 1)).natAbs : Int) := by
          unfold mJ mvF
          rw [if_neg (show ¬ l = 0 by omega)]
          exact if_neg (by omega)
        exact w_iret C dX6_moveTo_60 (by decide) (by decide) (DetI (by rw [e2, neg1, if_pos (by unfold FAR; omega)]) rfl)
      · skip
        refine w_iconst (pc2 := 55) (v := iI (-1)) C dX6_moveTo_54 (by decide) rfl ?_
        refine w_goto (tgt := 60) C dX6_moveTo_55 (by decide) ?_
        -- at 60: .ireturn
        have e2 : mJ J l k = FAR := by
          unfold mJ mvF
          rw [if_neg (show ¬ l = 0 by omega)]
          exact if_pos (Or.inr (by omega))
        exact w_iret C dX6_moveTo_60 (by decide) (by decide) (DetI (by rw [e2]; rfl) rfl)
  · skip
    refine w_iconst (pc2 := 6) (v := iI 0) C dX6_moveTo_5 (by decide) rfl ?_
    -- at 6: .ireturn
    have e2 : mJ J l k = 0 := by
      unfold mJ mvF
      exact if_pos (by omega)
    exact w_iret C dX6_moveTo_6 (by decide) (by decide) (DetI (by rw [e2]; rfl) rfl)
theorem s_X6_costBy0 (hy : Ly K R) {c l r k : Nat} (hm : Mus J c) (hr : RP J) (hl : l ≤ k) (hrr : r ≤ k) (hk : k < c) : S_X6_costBy [.ref 24, .int (iI 0), .int (iI ((l : Int) - 1)), .int (iI ((r : Int) - 1)), .int (iI k)] n K (zw J) L R (Det (some (.int (iI (if LJ J k l r < FAR then LJ J k l r + J 27 ((k + 1) * 101 + r) else -1)))) n K (zw J) L R) := by
  have hc2 := hm.2.1
  have g1 := hm.2.2 k hk
  refine Sp_intro [some (.ref 24), some (.int (iI 0)), some (.int (iI ((l : Int) - 1))), some (.int (iI ((r : Int) - 1))), some (.int (iI k)), none, none] rfl rfl (Nat.le_of_ble_eq_true rfl) rfl ?_
  intro Γ C
  replace C : C_X6_costBy Γ := C
  have fin : ∀ x : Int, (x = 0 ∨ x = 1) → (x = 1 ↔ (r ≠ 0 ∧ J 13 (r - 1) = J 13 k)) → wp Γ 0 0 (QQ Γ (Det (some (.int (iI (if LJ J k l r < FAR then LJ J k l r + J 27 ((k + 1) * 101 + r) else -1)))) n K (zw J) L R)) 36 [some (.ref 24), some (.int (iI 0)), some (.int (iI ((l : Int) - 1))), some (.int (iI ((r : Int) - 1))), some (.int (iI k)), none, none] [.int (iI x)] n K (zw J) L R := by
    intro x hx hx2
    have fin2 : ∀ w x : Int, w = neg1 (LJ J k l r) → wp Γ 0 0 (QQ Γ (Det (some (.int (iI (if LJ J k l r < FAR then LJ J k l r + J 27 ((k + 1) * 101 + r) else -1)))) n K (zw J) L R)) 54 [some (.ref 24), some (.int (iI 0)), some (.int (iI ((l : Int) - 1))), some (.int (iI ((r : Int) - 1))), some (.int (iI k)), some (.int (iI x)), none] [.int (iI w)] n K (zw J) L R := by
      intro w x hw
      have hb := okL hm k l r hk hl hrr
      have hw2 : (LJ J k l r < FAR → w = LJ J k l r) ∧ (¬ LJ J k l r < FAR → w = -1) := ⟨fun q => by rw [hw, neg1, if_pos q], fun q => by rw [hw, neg1, if_neg q]⟩
      refine w_istore (pc2 := 56) C dX6_costBy_54 rfl (by decide) rfl rfl ?_
      try dsimp only [List.set]
      refine w_iload (pc2 := 58) C dX6_costBy_56 rfl rfl ?_
      refine w_iconst (pc2 := 59) (v := iI (-1)) C dX6_costBy_58 (by decide) rfl ?_
      -- at 59: .if_icmp .ne 7
      refine z_icmp_ne (pc2 := 62) (tgt := 66) C dX6_costBy_59 (by decide) rfl (by unfold FAR at *; omega) (by omega) (fun h1 => ?_) (fun h1 => ?_)
      · have h2 : LJ J k l r < FAR := by
          rcases Decidable.em (LJ J k l r < FAR) with q | q
          · exact q
          · exact absurd (hw2.2 q) h1
        refine w_iload (pc2 := 68) C dX6_costBy_66 rfl rfl ?_
        refine w_aload_n (pc2 := 69) C dX6_costBy_68 rfl rfl ?_
        refine w_getR (pc2 := 72) C dX6_costBy_69 fl_X6_18 (by first | exact hy.k _ | assumption) (by first | exact hy.r _ _ | assumption) rfl ?_
        refine w_iload (pc2 := 74) C dX6_costBy_72 rfl rfl ?_
        refine w_iload_n (pc2 := 75) C dX6_costBy_74 rfl rfl ?_
        -- at 75: .invokestatic 37
        refine w_cSi (pc2 := 78)  C dX6_costBy_75 mb_X6_37 ms_X6_spot (s_X6_spot) rfl rfl (Nat.le_of_ble_eq_true rfl) ⟨by decide, by decide⟩ ⟨rfl, rfl⟩ ⟨by decide, by decide⟩ rfl ?_
        refine z_iald (pc2 := 79) (j := (k + 1) * 101 + r) C dX6_costBy_78 (by first | exact hy.k _ | assumption) (by omega) (by omega) (by decide) rfl ?_
        refine z_iadd (pc2 := 80) C dX6_costBy_79 rfl ?_
        -- at 80: .ireturn
        exact w_iret C dX6_costBy_80 (by decide) (by decide) (DetI (by rw [if_pos h2, hw2.1 h2]) rfl)
      · have h2 : ¬ LJ J k l r < FAR := by
          intro q
          have := hw2.1 q
          omega
        refine w_iconst (pc2 := 63) (v := iI (-1)) C dX6_costBy_62 (by decide) rfl ?_
        refine w_goto (tgt := 80) C dX6_costBy_63 (by decide) ?_
        -- at 80: .ireturn
        exact w_iret C dX6_costBy_80 (by decide) (by decide) (DetI (by rw [if_neg h2]) rfl)
    refine w_istore (pc2 := 38) C dX6_costBy_36 rfl (by decide) rfl rfl ?_
    try dsimp only [List.set]
    refine w_iload (pc2 := 40) C dX6_costBy_38 rfl rfl ?_
    -- at 40: .ifCond .eq 7
    refine z_if_eq (pc2 := 43) (tgt := 47) C dX6_costBy_40 (by decide) rfl (by omega) (fun h1 => ?_) (fun h1 => ?_)
    · skip
      refine w_aload_n (pc2 := 48) C dX6_costBy_47 rfl rfl ?_
      refine w_iload_n (pc2 := 49) C dX6_costBy_48 rfl rfl ?_
      refine w_iload (pc2 := 51) C dX6_costBy_49 rfl rfl ?_
      -- at 51: .invokevirtual 65
      refine w_cVi (pc2 := 54)  C dX6_costBy_51 mb_X6_65 mv_X6_moveTo (s_X6_moveTo hy hm hr (show l ≤ c by omega) hk) (by first | exact hy.k _ | assumption) rfl (by decide) rfl rfl (Nat.le_of_ble_eq_true rfl) ⟨by decide, by decide⟩ ⟨rfl, rfl⟩ ⟨by decide, by decide⟩ rfl ?_
      exact fin2 _ x (by unfold LJ LCc; rw [if_neg (fun q => by have := hx2.mpr q; omega)])
    · skip
      refine w_iconst (pc2 := 44) (v := iI (-1)) C dX6_costBy_43 (by decide) rfl ?_
      refine w_goto (tgt := 54) C dX6_costBy_44 (by decide) ?_
      -- at 54: .istore 6
      exact fin2 (-1) x (by unfold neg1 LJ LCc; rw [if_pos (hx2.mp (by omega)), if_neg (by omega)])
  refine w_iload_n (pc2 := 1) C dX6_costBy_0 rfl rfl ?_
  -- at 1: .ifCond .ne 80
  refine z_if_ne (pc2 := 4) (tgt := 81) C dX6_costBy_1 (by decide) rfl (by omega) (fun h1 => ?_) (fun h1 => ?_)
  · exact absurd rfl h1
  · skip
    refine w_iload_n (pc2 := 5) C dX6_costBy_4 rfl rfl ?_
    refine w_iconst (pc2 := 6) (v := iI (-1)) C dX6_costBy_5 (by decide) rfl ?_
    -- at 6: .if_icmp .eq 29
    refine z_icmp_eq (pc2 := 9) (tgt := 35) C dX6_costBy_6 (by decide) rfl (by omega) (by omega) (fun h2 => ?_) (fun h2 => ?_)
    · skip
      refine w_iconst (pc2 := 36) (v := iI 0) C dX6_costBy_35 (by decide) rfl ?_
      -- at 36: .istore 5
      exact fin 0 (Or.inl rfl) ⟨fun q => by omega, fun q => by omega⟩
    · have g2 := hm.2.2 (r - 1) (by omega)
      refine w_aload_n (pc2 := 10) C dX6_costBy_9 rfl rfl ?_
      refine w_getR (pc2 := 13) C dX6_costBy_10 fl_X6_21 (by first | exact hy.k _ | assumption) (by first | exact hy.r _ _ | assumption) rfl ?_
      refine w_getR (pc2 := 16) C dX6_costBy_13 fl_X6_62 (by first | exact hy.k _ | assumption) (by first | exact hy.r _ _ | assumption) rfl ?_
      refine w_iload_n (pc2 := 17) C dX6_costBy_16 rfl rfl ?_
      -- at 17: .iaload
      refine z_iald (pc2 := 18) (j := r - 1) C dX6_costBy_17 (by first | exact hy.k _ | assumption) (by omega) (by omega) (by decide) rfl ?_
      refine w_aload_n (pc2 := 19) C dX6_costBy_18 rfl rfl ?_
      refine w_getR (pc2 := 22) C dX6_costBy_19 fl_X6_21 (by first | exact hy.k _ | assumption) (by first | exact hy.r _ _ | assumption) rfl ?_
      refine w_getR (pc2 := 25) C dX6_costBy_22 fl_X6_62 (by first | exact hy.k _ | assumption) (by first | exact hy.r _ _ | assumption) rfl ?_
      refine w_iload (pc2 := 27) C dX6_costBy_25 rfl rfl ?_
      -- at 27: .iaload
      refine z_iald (pc2 := 28) (j := k) C dX6_costBy_27 (by first | exact hy.k _ | assumption) (by omega) (by omega) (by decide) rfl ?_
      -- at 28: .if_icmp .ne 7
      refine z_icmp_ne (pc2 := 31) (tgt := 35) C dX6_costBy_28 (by decide) rfl (by omega) (by omega) (fun h3 => ?_) (fun h3 => ?_)
      · skip
        refine w_iconst (pc2 := 36) (v := iI 0) C dX6_costBy_35 (by decide) rfl ?_
        -- at 36: .istore 5
        exact fin 0 (Or.inl rfl) ⟨fun q => by omega, fun q => absurd q.2 h3⟩
      · skip
        refine w_iconst (pc2 := 32) (v := iI 1) C dX6_costBy_31 (by decide) rfl ?_
        refine w_goto (tgt := 36) C dX6_costBy_32 (by decide) ?_
        -- at 36: .istore 5
        exact fin 1 (Or.inr rfl) ⟨fun q => ⟨by omega, h3⟩, fun q => rfl⟩
theorem s_X6_costBy1 (hy : Ly K R) {c l r k : Nat} (hm : Mus J c) (hr : RP J) (hl : l ≤ k) (hrr : r ≤ k) (hk : k < c) : S_X6_costBy [.ref 24, .int (iI 1), .int (iI ((l : Int) - 1)), .int (iI ((r : Int) - 1)), .int (iI k)] n K (zw J) L R (Det (some (.int (iI (if RJ J k l r < FAR then RJ J k l r + J 27 (l * 101 + (k + 1)) else -1)))) n K (zw J) L R) := by
  have hc2 := hm.2.1
  refine Sp_intro [some (.ref 24), some (.int (iI 1)), some (.int (iI ((l : Int) - 1))), some (.int (iI ((r : Int) - 1))), some (.int (iI k)), none, none] rfl rfl (Nat.le_of_ble_eq_true rfl) rfl ?_
  intro Γ C
  replace C : C_X6_costBy Γ := C
  refine w_iload_n (pc2 := 1) C dX6_costBy_0 rfl rfl ?_
  -- at 1: .ifCond .ne 80
  refine z_if_ne (pc2 := 4) (tgt := 81) C dX6_costBy_1 (by decide) rfl (by omega) (fun h1 => ?_) (fun h1 => ?_)
  · skip
    refine w_aload_n (pc2 := 82) C dX6_costBy_81 rfl rfl ?_
    refine w_iload_n (pc2 := 83) C dX6_costBy_82 rfl rfl ?_
    refine w_iload (pc2 := 85) C dX6_costBy_83 rfl rfl ?_
    -- at 85: .invokevirtual 65
    refine w_cVi (pc2 := 88)  C dX6_costBy_85 mb_X6_65 mv_X6_moveTo (s_X6_moveTo hy hm hr (show r ≤ c by omega) hk) (by first | exact hy.k _ | assumption) rfl (by decide) rfl rfl (Nat.le_of_ble_eq_true rfl) ⟨by decide, by decide⟩ ⟨rfl, rfl⟩ ⟨by decide, by decide⟩ rfl ?_
    have hb := okR hm k l r hk hl hrr
    have hw2 : (RJ J k l r < FAR → neg1 (mJ J r k) = RJ J k l r) ∧ (¬ RJ J k l r < FAR → neg1 (mJ J r k) = -1) := ⟨fun q => if_pos (show mJ J r k < FAR from q), fun q => if_neg (show ¬ mJ J r k < FAR from q)⟩
    generalize neg1 (mJ J r k) = w at *
    refine w_istore (pc2 := 90) C dX6_costBy_88 rfl (by decide) rfl rfl ?_
    try dsimp only [List.set]
    refine w_iload (pc2 := 92) C dX6_costBy_90 rfl rfl ?_
    refine w_iconst (pc2 := 93) (v := iI (-1)) C dX6_costBy_92 (by decide) rfl ?_
    -- at 93: .if_icmp .ne 7
    refine z_icmp_ne (pc2 := 96) (tgt := 100) C dX6_costBy_93 (by decide) rfl (by unfold FAR at *; omega) (by omega) (fun h2 => ?_) (fun h2 => ?_)
    · have h3 : RJ J k l r < FAR := by
        rcases Decidable.em (RJ J k l r < FAR) with q | q
        · exact q
        · exact absurd (hw2.2 q) h2
      refine w_iload (pc2 := 102) C dX6_costBy_100 rfl rfl ?_
      refine w_aload_n (pc2 := 103) C dX6_costBy_102 rfl rfl ?_
      refine w_getR (pc2 := 106) C dX6_costBy_103 fl_X6_18 (by first | exact hy.k _ | assumption) (by first | exact hy.r _ _ | assumption) rfl ?_
      refine w_iload_n (pc2 := 107) C dX6_costBy_106 rfl rfl ?_
      refine w_iload (pc2 := 109) C dX6_costBy_107 rfl rfl ?_
      -- at 109: .invokestatic 37
      refine w_cSi (pc2 := 112)  C dX6_costBy_109 mb_X6_37 ms_X6_spot (s_X6_spot) rfl rfl (Nat.le_of_ble_eq_true rfl) ⟨by decide, by decide⟩ ⟨rfl, rfl⟩ ⟨by decide, by decide⟩ rfl ?_
      refine z_iald (pc2 := 113) (j := l * 101 + (k + 1)) C dX6_costBy_112 (by first | exact hy.k _ | assumption) (by omega) (by omega) (by decide) rfl ?_
      refine z_iadd (pc2 := 114) C dX6_costBy_113 rfl ?_
      -- at 114: .ireturn
      exact w_iret C dX6_costBy_114 (by decide) (by decide) (DetI (by rw [if_pos h3, hw2.1 h3]) rfl)
    · have h3 : ¬ RJ J k l r < FAR := by
        intro q
        have := hw2.1 q
        omega
      refine w_iconst (pc2 := 97) (v := iI (-1)) C dX6_costBy_96 (by decide) rfl ?_
      refine w_goto (tgt := 114) C dX6_costBy_97 (by decide) ?_
      -- at 114: .ireturn
      exact w_iret C dX6_costBy_114 (by decide) (by decide) (DetI (by rw [if_neg h3]) rfl)
  · exact absurd h1 (by decide)
end SETTING
