/-! ===== playing, by the class ===== -/
/-- STRIKES struck: as THE SETTING (who) says, as the drum's pins -/
def pfL (L : wLn) (bl who : Nat → Int) : Nat → wLn
  | 0 => L
  | k + 1 => if who k = 2 then pfL L bl who k else up2 (pfL L bl who k) 22 (bl k).toNat (pfL L bl who k 22 (bl k).toNat + 1)
def pdL (L : wLn) (bl : Nat → Int) : Nat → wLn
  | 0 => L
  | k + 1 => up2 (pdL L bl k) 22 (bl k).toNat (pdL L bl k 22 (bl k).toNat + 1)
section PLAY
variable {n : Nat} {K : wKd} {J : wJn} {L : wLn} {R : wRf}
theorem s_X0_playByFists (hy : Ly K R) {c : Nat} (hm : Mus J c) (hw : ∀ k, k < c → R32 (J 25 k)) : S_X0_playByFists [.ref 21, .ref 12, .ref 24] n K (zw J) L R (Det (some (.int (iI (cntN (fun k => decide (¬ J 25 k = 2)) c)))) n K (zw J) (pfL L (J 14) (J 25) c) R) := by
  have hc := hm.1
  have hc2 := hm.2.1
  refine Sp_intro [some (.ref 21), some (.ref 12), some (.ref 24), none, none] rfl rfl (Nat.le_of_ble_eq_true rfl) rfl ?_
  intro Γ C
  replace C : C_X0_playByFists Γ := C
  have key : ∀ (d k : Nat), k + d = c → wp Γ 0 0 (QQ Γ (Det (some (.int (iI (cntN (fun k => decide (¬ J 25 k = 2)) c)))) n K (zw J) (pfL L (J 14) (J 25) c) R)) 5 [some (.ref 21), some (.ref 12), some (.ref 24), some (.int (iI (cntN (fun k => decide (¬ J 25 k = 2)) k))), some (.int (iI k))] [] n K (zw J) (pfL L (J 14) (J 25) k) R := by
    intro d
    induction d with
    | zero =>
      intro k hk
      refine w_iload (pc2 := 7) C dX0_playByFists_5 rfl rfl ?_
      refine w_aload_n (pc2 := 8) C dX0_playByFists_7 rfl rfl ?_
      refine z_getI (pc2 := 11) C dX0_playByFists_8 fl_X0_15 (by first | exact hy.k _ | assumption) rfl ?_
      -- at 11: .if_icmp .ge 39
      refine z_icmp_ge (pc2 := 14) (tgt := 50) C dX0_playByFists_11 (by decide) rfl (by omega) (by omega) (fun h1 => ?_) (fun h1 => ?_)
      · rw [show k = c by omega]
        refine w_iload_n (pc2 := 51) C dX0_playByFists_50 rfl rfl ?_
        -- at 51: .ireturn
        exact w_iret C dX0_playByFists_51 (by decide) (by decide) (⟨rfl, rfl, rfl, rfl, rfl, rfl⟩)
      · exact absurd hk (by omega)
    | succ d ih =>
      intro k hk
      have g1 := hm.2.2 k (by omega)
      have g2 := hw k (by omega)
      have ih2 := ih (k + 1) (by omega)
      simp only [cntN, pfL] at ih2
      refine w_iload (pc2 := 7) C dX0_playByFists_5 rfl rfl ?_
      refine w_aload_n (pc2 := 8) C dX0_playByFists_7 rfl rfl ?_
      refine z_getI (pc2 := 11) C dX0_playByFists_8 fl_X0_15 (by first | exact hy.k _ | assumption) rfl ?_
      -- at 11: .if_icmp .ge 39
      refine z_icmp_ge (pc2 := 14) (tgt := 50) C dX0_playByFists_11 (by decide) rfl (by omega) (by omega) (fun h1 => ?_) (fun h1 => ?_)
      · exact absurd hk (by omega)
      · skip
        refine w_aload_n (pc2 := 15) C dX0_playByFists_14 rfl rfl ?_
        refine w_getR (pc2 := 18) C dX0_playByFists_15 fl_X0_21 (by first | exact hy.k _ | assumption) (by first | exact hy.r _ _ | assumption) rfl ?_
        refine w_iload (pc2 := 20) C dX0_playByFists_18 rfl rfl ?_
        -- at 20: .iaload
        refine z_iald (pc2 := 21) (j := k) C dX0_playByFists_20 (by first | exact hy.k _ | assumption) (by omega) (by omega) (by decide) rfl ?_
        refine w_iconst (pc2 := 22) (v := iI 2) C dX0_playByFists_21 (by decide) rfl ?_
        -- at 22: .if_icmp .eq 22
        refine z_icmp_eq (pc2 := 25) (tgt := 44) C dX0_playByFists_22 (by decide) rfl (by omega) (by omega) (fun h2 => ?_) (fun h2 => ?_)
        · rw [if_neg (by simp [h2]), if_pos h2] at ih2
          refine w_iinc (pc2 := 47) C dX0_playByFists_44 rfl (iI_add _ _) rfl (by decide) rfl rfl ?_
          try dsimp only [List.set]
          refine w_goto (tgt := 5) C dX0_playByFists_47 (by decide) ?_
          -- at 5: .iload 4
          exact ih2
        · rw [if_pos (by simp [h2]), if_neg h2] at ih2
          refine w_aload_n (pc2 := 26) C dX0_playByFists_25 rfl rfl ?_
          refine w_getR (pc2 := 29) C dX0_playByFists_26 fl_X0_9 (by first | exact hy.k _ | assumption) (by first | exact hy.r _ _ | assumption) rfl ?_
          refine w_aload_n (pc2 := 30) C dX0_playByFists_29 rfl rfl ?_
          refine w_getR (pc2 := 33) C dX0_playByFists_30 fl_X0_27 (by first | exact hy.k _ | assumption) (by first | exact hy.r _ _ | assumption) rfl ?_
          refine w_iload (pc2 := 35) C dX0_playByFists_33 rfl rfl ?_
          -- at 35: .iaload
          refine z_iald (pc2 := 36) (j := k) C dX0_playByFists_35 (by first | exact hy.k _ | assumption) (by omega) (by omega) (by decide) rfl ?_
          refine w_dup2 (pc2 := 37) C dX0_playByFists_36 rfl rfl rfl ?_
          -- at 37: .laload
          refine z_lald (pc2 := 38) (j := (J 14 k).toNat) C dX0_playByFists_37 (by first | exact hy.k _ | assumption) (by omega) (by omega) (by decide) rfl ?_
          refine w_lconst (pc2 := 39) (v := 1) C dX0_playByFists_38 (by decide) rfl ?_
          refine w_ladd (pc2 := 40) C dX0_playByFists_39 rfl ?_
          -- at 40: .lastore
          refine z_last (pc2 := 41) (j := (J 14 k).toNat) C dX0_playByFists_40 (by first | exact hy.k _ | assumption) (by omega) (by omega) (by decide) rfl ?_
          refine w_iinc (pc2 := 44) C dX0_playByFists_41 rfl (iI_add _ _) rfl (by decide) rfl rfl ?_
          try dsimp only [List.set]
          refine w_iinc (pc2 := 47) C dX0_playByFists_44 rfl (iI_add _ _) rfl (by decide) rfl rfl ?_
          try dsimp only [List.set]
          refine w_goto (tgt := 5) C dX0_playByFists_47 (by decide) ?_
          -- at 5: .iload 4
          exact ih2
  refine w_iconst (pc2 := 1) (v := iI 0) C dX0_playByFists_0 (by decide) rfl ?_
  refine w_istore_n (pc2 := 2) C dX0_playByFists_1 rfl (by decide) rfl rfl ?_
  try dsimp only [List.set]
  refine w_iconst (pc2 := 3) (v := iI 0) C dX0_playByFists_2 (by decide) rfl ?_
  refine w_istore (pc2 := 5) C dX0_playByFists_3 rfl (by decide) rfl rfl ?_
  try dsimp only [List.set]
  -- at 5: .iload 4
  exact key c 0 (by omega)
theorem s_X0_playByDrum (hy : Ly K R) {m s : Nat} (hp : Pin J m s) : S_X0_playByDrum [.ref 21, .ref 18] n K (zw J) L R (Det (some (.int (iI m))) n K (zw J) (pdL L (J 20) m) R) := by
  obtain ⟨hp1, hp2, hp3, hp4, hp5, hp6⟩ := hp
  refine Sp_intro [some (.ref 21), some (.ref 18), none] rfl rfl (Nat.le_of_ble_eq_true rfl) rfl ?_
  intro Γ C
  replace C : C_X0_playByDrum Γ := C
  have key : ∀ (d k : Nat), k + d = m → wp Γ 0 0 (QQ Γ (Det (some (.int (iI m))) n K (zw J) (pdL L (J 20) m) R)) 2 [some (.ref 21), some (.ref 18), some (.int (iI k))] [] n K (zw J) (pdL L (J 20) k) R := by
    intro d
    induction d with
    | zero =>
      intro k hk
      refine w_iload_n (pc2 := 3) C dX0_playByDrum_2 rfl rfl ?_
      refine w_aload_n (pc2 := 4) C dX0_playByDrum_3 rfl rfl ?_
      refine z_getI (pc2 := 7) C dX0_playByDrum_4 fl_X0_30 (by first | exact hy.k _ | assumption) rfl ?_
      -- at 7: .if_icmp .ge 24
      refine z_icmp_ge (pc2 := 10) (tgt := 31) C dX0_playByDrum_7 (by decide) rfl (by omega) (by omega) (fun h1 => ?_) (fun h1 => ?_)
      · rw [show k = m by omega]
        refine w_aload_n (pc2 := 32) C dX0_playByDrum_31 rfl rfl ?_
        refine z_getI (pc2 := 35) C dX0_playByDrum_32 fl_X0_30 (by first | exact hy.k _ | assumption) rfl ?_
        -- at 35: .ireturn
        exact w_iret C dX0_playByDrum_35 (by decide) (by decide) (DetI (by rw [hp1]) rfl)
      · exact absurd hk (by omega)
    | succ d ih =>
      intro k hk
      have g1 := hp6 k (by omega)
      have ih2 := ih (k + 1) (by omega)
      simp only [pdL] at ih2
      refine w_iload_n (pc2 := 3) C dX0_playByDrum_2 rfl rfl ?_
      refine w_aload_n (pc2 := 4) C dX0_playByDrum_3 rfl rfl ?_
      refine z_getI (pc2 := 7) C dX0_playByDrum_4 fl_X0_30 (by first | exact hy.k _ | assumption) rfl ?_
      -- at 7: .if_icmp .ge 24
      refine z_icmp_ge (pc2 := 10) (tgt := 31) C dX0_playByDrum_7 (by decide) rfl (by omega) (by omega) (fun h1 => ?_) (fun h1 => ?_)
      · exact absurd hk (by omega)
      · skip
        refine w_aload_n (pc2 := 11) C dX0_playByDrum_10 rfl rfl ?_
        refine w_getR (pc2 := 14) C dX0_playByDrum_11 fl_X0_9 (by first | exact hy.k _ | assumption) (by first | exact hy.r _ _ | assumption) rfl ?_
        refine w_aload_n (pc2 := 15) C dX0_playByDrum_14 rfl rfl ?_
        refine w_getR (pc2 := 18) C dX0_playByDrum_15 fl_X0_33 (by first | exact hy.k _ | assumption) (by first | exact hy.r _ _ | assumption) rfl ?_
        refine w_iload_n (pc2 := 19) C dX0_playByDrum_18 rfl rfl ?_
        -- at 19: .iaload
        refine z_iald (pc2 := 20) (j := k) C dX0_playByDrum_19 (by first | exact hy.k _ | assumption) (by omega) (by omega) (by decide) rfl ?_
        refine w_dup2 (pc2 := 21) C dX0_playByDrum_20 rfl rfl rfl ?_
        -- at 21: .laload
        refine z_lald (pc2 := 22) (j := (J 20 k).toNat) C dX0_playByDrum_21 (by first | exact hy.k _ | assumption) (by omega) (by omega) (by decide) rfl ?_
        refine w_lconst (pc2 := 23) (v := 1) C dX0_playByDrum_22 (by decide) rfl ?_
        refine w_ladd (pc2 := 24) C dX0_playByDrum_23 rfl ?_
        -- at 24: .lastore
        refine z_last (pc2 := 25) (j := (J 20 k).toNat) C dX0_playByDrum_24 (by first | exact hy.k _ | assumption) (by omega) (by omega) (by decide) rfl ?_
        refine w_iinc (pc2 := 28) C dX0_playByDrum_25 rfl (iI_add _ _) rfl (by decide) rfl rfl ?_
        try dsimp only [List.set]
        refine w_goto (tgt := 2) C dX0_playByDrum_28 (by decide) ?_
        -- at 2: .iload_n 2
        exact ih2
  refine w_iconst (pc2 := 1) (v := iI 0) C dX0_playByDrum_0 (by decide) rfl ?_
  refine w_istore_n (pc2 := 2) C dX0_playByDrum_1 rfl (by decide) rfl rfl ?_
  try dsimp only [List.set]
  -- at 2: .iload_n 2
  exact key m 0 (by omega)
theorem addN_sz (a : Int) : ∀ (d : Nat) (J : wJn), addN a d J 1 1 = J 1 1 + d
  | 0, J => by simp [addN]
  | d + 1, J => by
    simp only [addN]
    rw [addN_sz a d, up2_s]
    omega
def fedJ (J : wJn) (a b c d e : Int) : wJn := addN e 4 (addN d 4 (addN c 4 (addN b 4 (addN a 4 J))))
theorem s_X10_feed (hy : Ly K R) {a b c d e : Int} (h0 : 0 ≤ J 1 1 ∧ J 1 1 ≤ 1000) : S_X10_feed [.ref 0, .int (iI a), .int (iI b), .int (iI c), .int (iI d), .int (iI e)] n K (zw J) L R (Det (some (.int (iI (if J 1 1 + 20 ≤ 1000 then J 1 1 + 20 else -1)))) n K (zw (if J 1 1 + 20 ≤ 1000 then fedJ J a b c d e else J)) L R) := by
  refine Sp_intro [some (.ref 0), some (.int (iI a)), some (.int (iI b)), some (.int (iI c)), some (.int (iI d)), some (.int (iI e))] rfl rfl (Nat.le_of_ble_eq_true rfl) rfl ?_
  intro Γ C
  replace C : C_X10_feed Γ := C
  refine w_aload_n (pc2 := 1) C dX10_feed_0 rfl rfl ?_
  refine w_getR (pc2 := 4) C dX10_feed_1 fl_X10_10 (by first | exact hy.k _ | assumption) (by first | exact hy.r _ _ | assumption) rfl ?_
  -- at 4: .invokevirtual 67
  refine w_cVi (pc2 := 7)  C dX10_feed_4 mb_X10_67 mv_X7_hasRoom (s_X7_hasRoom hy (by omega) h0) (by first | exact hy.k _ | assumption) rfl (by decide) rfl rfl (Nat.le_of_ble_eq_true rfl) ⟨by decide, by decide⟩ ⟨rfl, rfl⟩ ⟨by decide, by decide⟩ rfl ?_
  -- at 7: .ifCond .ne 5
  refine z_if_ne (pc2 := 10) (tgt := 12) C dX10_feed_7 (by decide) rfl (by split <;> omega) (fun h1 => ?_) (fun h1 => ?_)
  · have h2 : J 1 1 + 20 ≤ 1000 := by
      rcases Decidable.em (J 1 1 + 20 ≤ 1000) with q | q
      · exact q
      · rw [if_neg q] at h1; exact absurd rfl h1
    have e1 := addN_sz a 4 J
    have e2 := addN_sz b 4 (addN a 4 J)
    have e3 := addN_sz c 4 (addN b 4 (addN a 4 J))
    have e4 := addN_sz d 4 (addN c 4 (addN b 4 (addN a 4 J)))
    have e5 := addN_sz e 4 (addN d 4 (addN c 4 (addN b 4 (addN a 4 J))))
    refine w_aload_n (pc2 := 13) C dX10_feed_12 rfl rfl ?_
    refine w_getR (pc2 := 16) C dX10_feed_13 fl_X10_10 (by first | exact hy.k _ | assumption) (by first | exact hy.r _ _ | assumption) rfl ?_
    refine w_iload_n (pc2 := 17) C dX10_feed_16 rfl rfl ?_
    -- at 17: .invokevirtual 71
    refine w_cVv (pc2 := 20)  C dX10_feed_17 mb_X10_71 mv_X7_addNumber (s_X7_addNumber hy (by omega) (by omega)) (by first | exact hy.k _ | assumption) rfl (by decide) rfl rfl (Nat.le_of_ble_eq_true rfl) ⟨by decide, by decide⟩ ⟨rfl, rfl⟩ ⟨by decide, by decide⟩ rfl ?_
    refine w_aload_n (pc2 := 21) C dX10_feed_20 rfl rfl ?_
    refine w_getR (pc2 := 24) C dX10_feed_21 fl_X10_10 (by first | exact hy.k _ | assumption) (by first | exact hy.r _ _ | assumption) rfl ?_
    refine w_iload_n (pc2 := 25) C dX10_feed_24 rfl rfl ?_
    -- at 25: .invokevirtual 71
    refine w_cVv (pc2 := 28)  C dX10_feed_25 mb_X10_71 mv_X7_addNumber (s_X7_addNumber hy (by omega) (by omega)) (by first | exact hy.k _ | assumption) rfl (by decide) rfl rfl (Nat.le_of_ble_eq_true rfl) ⟨by decide, by decide⟩ ⟨rfl, rfl⟩ ⟨by decide, by decide⟩ rfl ?_
    refine w_aload_n (pc2 := 29) C dX10_feed_28 rfl rfl ?_
    refine w_getR (pc2 := 32) C dX10_feed_29 fl_X10_10 (by first | exact hy.k _ | assumption) (by first | exact hy.r _ _ | assumption) rfl ?_
    refine w_iload_n (pc2 := 33) C dX10_feed_32 rfl rfl ?_
    -- at 33: .invokevirtual 71
    refine w_cVv (pc2 := 36)  C dX10_feed_33 mb_X10_71 mv_X7_addNumber (s_X7_addNumber hy (by omega) (by omega)) (by first | exact hy.k _ | assumption) rfl (by decide) rfl rfl (Nat.le_of_ble_eq_true rfl) ⟨by decide, by decide⟩ ⟨rfl, rfl⟩ ⟨by decide, by decide⟩ rfl ?_
    refine w_aload_n (pc2 := 37) C dX10_feed_36 rfl rfl ?_
    refine w_getR (pc2 := 40) C dX10_feed_37 fl_X10_10 (by first | exact hy.k _ | assumption) (by first | exact hy.r _ _ | assumption) rfl ?_
    refine w_iload (pc2 := 42) C dX10_feed_40 rfl rfl ?_
    -- at 42: .invokevirtual 71
    refine w_cVv (pc2 := 45)  C dX10_feed_42 mb_X10_71 mv_X7_addNumber (s_X7_addNumber hy (by omega) (by omega)) (by first | exact hy.k _ | assumption) rfl (by decide) rfl rfl (Nat.le_of_ble_eq_true rfl) ⟨by decide, by decide⟩ ⟨rfl, rfl⟩ ⟨by decide, by decide⟩ rfl ?_
    refine w_aload_n (pc2 := 46) C dX10_feed_45 rfl rfl ?_
    refine w_getR (pc2 := 49) C dX10_feed_46 fl_X10_10 (by first | exact hy.k _ | assumption) (by first | exact hy.r _ _ | assumption) rfl ?_
    refine w_iload (pc2 := 51) C dX10_feed_49 rfl rfl ?_
    -- at 51: .invokevirtual 71
    refine w_cVv (pc2 := 54)  C dX10_feed_51 mb_X10_71 mv_X7_addNumber (s_X7_addNumber hy (by omega) (by omega)) (by first | exact hy.k _ | assumption) rfl (by decide) rfl rfl (Nat.le_of_ble_eq_true rfl) ⟨by decide, by decide⟩ ⟨rfl, rfl⟩ ⟨by decide, by decide⟩ rfl ?_
    refine w_aload_n (pc2 := 55) C dX10_feed_54 rfl rfl ?_
    refine w_getR (pc2 := 58) C dX10_feed_55 fl_X10_10 (by first | exact hy.k _ | assumption) (by first | exact hy.r _ _ | assumption) rfl ?_
    refine z_getI (pc2 := 61) C dX10_feed_58 fl_X10_75 (by first | exact hy.k _ | assumption) rfl ?_
    -- at 61: .ireturn
    exact w_iret C dX10_feed_61 (by decide) (by decide) (DetI (by rw [if_pos h2, e5, e4, e3, e2, e1]; congr 3; omega) (by rw [if_pos h2]; rfl))
  · have h2 : ¬ J 1 1 + 20 ≤ 1000 := by
      intro q
      rw [if_pos (by omega)] at h1; exact absurd h1 (by decide)
    refine w_iconst (pc2 := 11) (v := iI (-1)) C dX10_feed_10 (by decide) rfl ?_
    -- at 11: .ireturn
    exact w_iret C dX10_feed_11 (by decide) (by decide) (DetI (by rw [if_neg h2]) (by rw [if_neg h2]))
end PLAY
