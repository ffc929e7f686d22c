/-- the first j places of a row told anew -/
def ov (J : wJn) (r : Nat) (f : Nat → Int) (j : Nat) : wJn := fun a b => if a = r ∧ b < j then f b else J a b
theorem ov_0 (J : wJn) (r : Nat) (f : Nat → Int) : ov J r f 0 = J := by
  funext a b
  simp [ov]
theorem ov_up (J : wJn) (r : Nat) (f : Nat → Int) (j : Nat) : up2 (ov J r f j) r j (f j) = ov J r f (j + 1) := by
  funext a b
  simp only [up2, ov]
  by_cases h1 : a = r
  · by_cases h2 : b = j
    · simp [h1, h2]
    · by_cases h3 : b < j
      · simp [h1, h2, h3, show b < j + 1 by omega]
      · simp [h1, h2, h3, show ¬ b < j + 1 by omega]
  · simp [h1]
theorem ov_row {J : wJn} {r : Nat} {f : Nat → Int} {j a : Nat} (h : a ≠ r) : ov J r f j a = J a := by
  funext b
  simp [ov, h]
theorem ov_in {J : wJn} {r : Nat} {f : Nat → Int} {j b : Nat} (h : b < j) : ov J r f j r b = f b := by simp [ov, h]
theorem ov_out {J : wJn} {r : Nat} {f : Nat → Int} {j b : Nat} (h : ¬ b < j) : ov J r f j r b = J r b := by simp [ov, h]
theorem up2_row {α : Type} {f : Nat → Nat → α} {i k a : Nat} {x : α} (h : a ≠ i) : up2 f i k x a = f a := by
  funext b
  simp [up2, h]
def sumN (f : Nat → Int) : Nat → Int
  | 0 => 0
  | n + 1 => sumN f n + f n
theorem sumN_0 {f : Nat → Int} : ∀ n, (∀ k, k < n → f k = 0) → sumN f n = 0
  | 0, _ => rfl
  | n + 1, h => by simp only [sumN]; rw [sumN_0 n (fun k hk => h k (by omega)), h n (by omega)]; rfl
theorem sumN_cong {f g : Nat → Int} : ∀ n, (∀ k, k < n → f k = g k) → sumN f n = sumN g n
  | 0, _ => rfl
  | n + 1, h => by simp only [sumN]; rw [sumN_cong n (fun k hk => h k (by omega)), h n (by omega)]
def tog (J : wJn) (a b : Nat) : Int := max 0 (min (J 13 a + J 17 a) (J 13 b + J 17 b) - J 13 b)
def qvC (J : wJn) (a b : Nat) : Int := if canQ J a b = true then tog J a b else 0
def qinC (J : wJn) (a j : Nat) : Int := sumN (fun s => if a < s then qvC J a s else 0) j
def qouC (J : wJn) (c j : Nat) : Int := sumN (fun a => qinC J a c) j
/-- the lengths written -/
def lnJ (J : wJn) (c : Nat) : wJn := ov J 17 (sndC J c) c
theorem Mus.ov {J : wJn} {c r j : Nat} {f : Nat → Int} (h : Mus J c) (h1 : r ≠ 12) (h2 : r ≠ 13) (h3 : r ≠ 14) : Mus (ov J r f j) c := by
  unfold Mus
  rw [ov_row (a := 12) (Ne.symm h1), ov_row (a := 13) (Ne.symm h2), ov_row (a := 14) (Ne.symm h3)]
  exact h
theorem Tai.ov {J : wJn} {r j : Nat} {f : Nat → Int} (h : Tai J) (h1 : r ≠ 16) : Tai (ov J r f j) := by
  unfold Tai
  rw [ov_row (a := 16) (Ne.symm h1)]
  exact h
theorem sndC_ov {J : wJn} {c j : Nat} {f : Nat → Int} {k : Nat} : sndC (ov J 17 f j) c k = sndC J c k := by
  unfold sndC
  rw [ov_row (a := 13) (by decide), ov_row (a := 14) (by decide), ov_row (a := 16) (by decide)]
section QUAR
variable {n : Nat} {K : wKd} {J : wJn} {L : wLn} {R : wRf}
theorem s_X8_quarrelTicks (hy : Ly K R) {c : Nat} (hm : Mus J c) (ht : Tai J) : S_X8_quarrelTicks [.ref 15, .ref 12] n K (zw J) L R (Det (some (.int (iI (qouC (lnJ J c) c c)))) n K (zw (lnJ J c)) L R) := by
  have hc := hm.1
  have hc2 := hm.2.1
  have hm2 : Mus (lnJ J c) c := hm.ov (by decide) (by decide) (by decide)
  refine Sp_intro [some (.ref 15), some (.ref 12), none, none, none] rfl rfl (Nat.le_of_ble_eq_true rfl) rfl ?_
  intro Γ C
  replace C : C_X8_quarrelTicks Γ := C
  generalize hpost : (Det (some (.int (iI (qouC (lnJ J c) c c)))) n K (zw (lnJ J c)) L R) = post
  -- the inner sum
  have key2 : ∀ (d a j : Nat), a < c → a < j → j + d = c → (wp Γ 0 0 (QQ Γ post) 32 [some (.ref 15), some (.ref 12), some (.int (iI (qouC (lnJ J c) c (a + 1)))), some (.int (iI ((a + 1 : Nat) : Int))), none] [] n K (zw (lnJ J c)) L R) → wp Γ 0 0 (QQ Γ post) 45 [some (.ref 15), some (.ref 12), some (.int (iI (qouC (lnJ J c) c a + qinC (lnJ J c) a j))), some (.int (iI a)), some (.int (iI j))] [] n K (zw (lnJ J c)) L R := by
    intro d
    induction d with
    | zero =>
      intro a j ha hj hd hk
      have hc1 := hm2.1
      refine w_iload (pc2 := 47) C dX8_quarrelTicks_45 rfl rfl ?_
      refine w_aload_n (pc2 := 48) C dX8_quarrelTicks_47 rfl rfl ?_
      refine z_getI (pc2 := 51) C dX8_quarrelTicks_48 fl_X8_27 (by first | exact hy.k _ | assumption) rfl ?_
      -- at 51: .if_icmp .ge 31
      refine z_icmp_ge (pc2 := 54) (tgt := 82) C dX8_quarrelTicks_51 (by decide) rfl (by omega) (by omega) (fun h1 => ?_) (fun h1 => ?_)
      · skip
        refine w_iinc (pc2 := 85) C dX8_quarrelTicks_82 rfl (iI_add _ _) rfl (by decide) rfl rfl ?_
        try dsimp only [List.set]
        refine w_goto (tgt := 32) C dX8_quarrelTicks_85 (by decide) ?_
        -- at 32: .iload_n 3
        refine w_less (lo2 := [some (.ref 15), some (.ref 12), some (.int (iI (qouC (lnJ J c) c (a + 1)))), some (.int (iI ((a + 1 : Nat) : Int))), none]) ?_ hk
        intro i v hv
        rw [show j = c by omega]
        match i, hv with
        | 0, hv => exact hv
        | 1, hv => exact hv
        | 2, hv => exact hv
        | 3, hv => exact hv
        | 4, hv => cases hv
        | i + 5, hv => simp at hv
      · exact absurd hd (by omega)
    | succ d ih =>
      intro a j ha hj hd hk
      have hc1 := hm2.1
      refine w_iload (pc2 := 47) C dX8_quarrelTicks_45 rfl rfl ?_
      refine w_aload_n (pc2 := 48) C dX8_quarrelTicks_47 rfl rfl ?_
      refine z_getI (pc2 := 51) C dX8_quarrelTicks_48 fl_X8_27 (by first | exact hy.k _ | assumption) rfl ?_
      -- at 51: .if_icmp .ge 31
      refine z_icmp_ge (pc2 := 54) (tgt := 82) C dX8_quarrelTicks_51 (by decide) rfl (by omega) (by omega) (fun h1 => ?_) (fun h1 => ?_)
      · exact absurd hd (by omega)
      · skip
        refine w_aload_n (pc2 := 55) C dX8_quarrelTicks_54 rfl rfl ?_
        refine w_aload_n (pc2 := 56) C dX8_quarrelTicks_55 rfl rfl ?_
        refine w_iload_n (pc2 := 57) C dX8_quarrelTicks_56 rfl rfl ?_
        refine w_iload (pc2 := 59) C dX8_quarrelTicks_57 rfl rfl ?_
        -- at 59: .invokevirtual 43
        refine w_cVi (pc2 := 62)  C dX8_quarrelTicks_59 mb_X8_43 mv_X8_canQuarrel (s_X8_canQuarrel hy hm2 ha (show j < c by omega)) (by first | exact hy.k _ | assumption) rfl (by decide) rfl rfl (Nat.le_of_ble_eq_true rfl) ⟨by decide, by decide⟩ ⟨rfl, rfl⟩ ⟨by decide, by decide⟩ rfl ?_
        -- at 62: .ifCond .eq 14
        refine z_if_eq (pc2 := 65) (tgt := 76) C dX8_quarrelTicks_62 (by decide) rfl (by split <;> omega) (fun h2 => ?_) (fun h2 => ?_)
        · have h3 : ¬ canQ (lnJ J c) a j = true := fun q => by rw [if_pos q] at h2; exact absurd h2 (by decide)
          refine w_iinc (pc2 := 79) C dX8_quarrelTicks_76 rfl (iI_add _ _) rfl (by decide) rfl rfl ?_
          try dsimp only [List.set]
          refine w_goto (tgt := 45) C dX8_quarrelTicks_79 (by decide) ?_
          -- at 45: .iload 4
          have e : qinC (lnJ J c) a (j + 1) = qinC (lnJ J c) a j := by simp [qinC, sumN, qvC, h3]
          have := ih a (j + 1) ha (by omega) (by omega) hk
          rw [e] at this
          exact this
        · have h3 : canQ (lnJ J c) a j = true := by
            rcases Decidable.em (canQ (lnJ J c) a j = true) with q | q
            · exact q
            · rw [if_neg q] at h2; exact absurd rfl h2
          refine w_iload_n (pc2 := 66) C dX8_quarrelTicks_65 rfl rfl ?_
          refine w_aload_n (pc2 := 67) C dX8_quarrelTicks_66 rfl rfl ?_
          refine w_aload_n (pc2 := 68) C dX8_quarrelTicks_67 rfl rfl ?_
          refine w_iload_n (pc2 := 69) C dX8_quarrelTicks_68 rfl rfl ?_
          refine w_iload (pc2 := 71) C dX8_quarrelTicks_69 rfl rfl ?_
          -- at 71: .invokevirtual 47
          refine w_cVi (pc2 := 74)  C dX8_quarrelTicks_71 mb_X8_47 mv_X8_ticksTogether (s_X8_ticksTogether hy hm2 ha (show j < c by omega) (by rw [show lnJ J c 17 a = sndC J c a from ov_in ha]; exact sndC_bd hm ht ha) (by rw [show lnJ J c 17 j = sndC J c j from ov_in (by omega)]; exact sndC_bd hm ht (by omega))) (by first | exact hy.k _ | assumption) rfl (by decide) rfl rfl (Nat.le_of_ble_eq_true rfl) ⟨by decide, by decide⟩ ⟨rfl, rfl⟩ ⟨by decide, by decide⟩ rfl ?_
          refine z_iadd (pc2 := 75) C dX8_quarrelTicks_74 rfl ?_
          refine w_istore_n (pc2 := 76) C dX8_quarrelTicks_75 rfl (by decide) rfl rfl ?_
          try dsimp only [List.set]
          refine w_iinc (pc2 := 79) C dX8_quarrelTicks_76 rfl (iI_add _ _) rfl (by decide) rfl rfl ?_
          try dsimp only [List.set]
          refine w_goto (tgt := 45) C dX8_quarrelTicks_79 (by decide) ?_
          -- at 45: .iload 4
          have e : qinC (lnJ J c) a (j + 1) = qinC (lnJ J c) a j + tog (lnJ J c) a j := by simp [qinC, sumN, qvC, h3, hj]
          have := ih a (j + 1) ha (by omega) (by omega) hk
          rw [e, ← Int.add_assoc] at this
          exact this
  -- the outer sum
  have key1 : ∀ (d a : Nat), a + d = c → wp Γ 0 0 (QQ Γ post) 32 [some (.ref 15), some (.ref 12), some (.int (iI (qouC (lnJ J c) c a))), some (.int (iI a)), none] [] n K (zw (lnJ J c)) L R := by
    intro d
    induction d with
    | zero =>
      intro a ha
      have hc1 := hm2.1
      refine w_iload_n (pc2 := 33) C dX8_quarrelTicks_32 rfl rfl ?_
      refine w_aload_n (pc2 := 34) C dX8_quarrelTicks_33 rfl rfl ?_
      refine z_getI (pc2 := 37) C dX8_quarrelTicks_34 fl_X8_27 (by first | exact hy.k _ | assumption) rfl ?_
      -- at 37: .if_icmp .ge 51
      refine z_icmp_ge (pc2 := 40) (tgt := 88) C dX8_quarrelTicks_37 (by decide) rfl (by omega) (by omega) (fun h1 => ?_) (fun h1 => ?_)
      · skip
        refine w_iload_n (pc2 := 89) C dX8_quarrelTicks_88 rfl rfl ?_
        -- at 89: .ireturn
        exact w_iret C dX8_quarrelTicks_89 (by decide) (by decide) (by rw [← hpost]; exact DetI (by rw [show a = c by omega]) rfl)
      · exact absurd ha (by omega)
    | succ d ih =>
      intro a ha
      have hc1 := hm2.1
      refine w_iload_n (pc2 := 33) C dX8_quarrelTicks_32 rfl rfl ?_
      refine w_aload_n (pc2 := 34) C dX8_quarrelTicks_33 rfl rfl ?_
      refine z_getI (pc2 := 37) C dX8_quarrelTicks_34 fl_X8_27 (by first | exact hy.k _ | assumption) rfl ?_
      -- at 37: .if_icmp .ge 51
      refine z_icmp_ge (pc2 := 40) (tgt := 88) C dX8_quarrelTicks_37 (by decide) rfl (by omega) (by omega) (fun h1 => ?_) (fun h1 => ?_)
      · exact absurd ha (by omega)
      · skip
        refine w_iload_n (pc2 := 41) C dX8_quarrelTicks_40 rfl rfl ?_
        refine w_iconst (pc2 := 42) (v := iI 1) C dX8_quarrelTicks_41 (by decide) rfl ?_
        refine z_iadd (pc2 := 43) C dX8_quarrelTicks_42 rfl ?_
        refine w_istore (pc2 := 45) C dX8_quarrelTicks_43 rfl (by decide) rfl rfl ?_
        try dsimp only [List.set]
        -- at 45: .iload 4
        have h9 := key2 (c - (a + 1)) a (a + 1) (by omega) (by omega) (by omega) (ih (a + 1) (by omega))
        have e : qinC (lnJ J c) a (a + 1) = 0 := sumN_0 _ (fun k hk => if_neg (by omega))
        rw [e, Int.add_zero] at h9
        exact h9
  -- the lengths
  have key0 : ∀ (d j : Nat), j + d = c → wp Γ 0 0 (QQ Γ post) 2 [some (.ref 15), some (.ref 12), some (.int (iI j)), none, none] [] n K (zw (ov J 17 (sndC J c) j)) L R := by
    intro d
    induction d with
    | zero =>
      intro j hj
      have hm1 : Mus (ov J 17 (sndC J c) j) c := hm.ov (by decide) (by decide) (by decide)
      have hc1 := hm1.1
      refine w_iload_n (pc2 := 3) C dX8_quarrelTicks_2 rfl rfl ?_
      refine w_aload_n (pc2 := 4) C dX8_quarrelTicks_3 rfl rfl ?_
      refine z_getI (pc2 := 7) C dX8_quarrelTicks_4 fl_X8_27 (by first | exact hy.k _ | assumption) rfl ?_
      -- at 7: .if_icmp .ge 21
      refine z_icmp_ge (pc2 := 10) (tgt := 28) C dX8_quarrelTicks_7 (by decide) rfl (by omega) (by omega) (fun h1 => ?_) (fun h1 => ?_)
      · skip
        refine w_iconst (pc2 := 29) (v := iI 0) C dX8_quarrelTicks_28 (by decide) rfl ?_
        refine w_istore_n (pc2 := 30) C dX8_quarrelTicks_29 rfl (by decide) rfl rfl ?_
        try dsimp only [List.set]
        refine w_iconst (pc2 := 31) (v := iI 0) C dX8_quarrelTicks_30 (by decide) rfl ?_
        refine w_istore_n (pc2 := 32) C dX8_quarrelTicks_31 rfl (by decide) rfl rfl ?_
        try dsimp only [List.set]
        -- at 32: .iload_n 3
        have e : ov J 17 (sndC J c) j = lnJ J c := by rw [show j = c by omega]; rfl
        rw [e]
        exact key1 c 0 (by omega)
      · exact absurd hj (by omega)
    | succ d ih =>
      intro j hj
      have hm1 : Mus (ov J 17 (sndC J c) j) c := hm.ov (by decide) (by decide) (by decide)
      have ht1 : Tai (ov J 17 (sndC J c) j) := ht.ov (by decide)
      have hc1 := hm1.1
      refine w_iload_n (pc2 := 3) C dX8_quarrelTicks_2 rfl rfl ?_
      refine w_aload_n (pc2 := 4) C dX8_quarrelTicks_3 rfl rfl ?_
      refine z_getI (pc2 := 7) C dX8_quarrelTicks_4 fl_X8_27 (by first | exact hy.k _ | assumption) rfl ?_
      -- at 7: .if_icmp .ge 21
      refine z_icmp_ge (pc2 := 10) (tgt := 28) C dX8_quarrelTicks_7 (by decide) rfl (by omega) (by omega) (fun h1 => ?_) (fun h1 => ?_)
      · exact absurd hj (by omega)
      · skip
        refine w_aload_n (pc2 := 11) C dX8_quarrelTicks_10 rfl rfl ?_
        refine w_getR (pc2 := 14) C dX8_quarrelTicks_11 fl_X8_19 (by first | exact hy.k _ | assumption) (by first | exact hy.r _ _ | assumption) rfl ?_
        refine w_iload_n (pc2 := 15) C dX8_quarrelTicks_14 rfl rfl ?_
        refine w_aload_n (pc2 := 16) C dX8_quarrelTicks_15 rfl rfl ?_
        refine w_aload_n (pc2 := 17) C dX8_quarrelTicks_16 rfl rfl ?_
        refine w_iload_n (pc2 := 18) C dX8_quarrelTicks_17 rfl rfl ?_
        -- at 18: .invokevirtual 39
        refine w_cVi (pc2 := 21)  C dX8_quarrelTicks_18 mb_X8_39 mv_X8_soundLength (s_X8_soundLength hy hm1 ht1 (k := j) (by omega)) (by first | exact hy.k _ | assumption) rfl (by decide) rfl rfl (Nat.le_of_ble_eq_true rfl) ⟨by decide, by decide⟩ ⟨rfl, rfl⟩ ⟨by decide, by decide⟩ rfl ?_
        rw [sndC_ov]
        refine z_iast (pc2 := 22) (j := j) C dX8_quarrelTicks_21 (by first | exact hy.k _ | assumption) (by omega) (by omega) (by decide) rfl ?_
        rw [ov_up]
        refine w_iinc (pc2 := 25) C dX8_quarrelTicks_22 rfl (iI_add _ _) rfl (by decide) rfl rfl ?_
        try dsimp only [List.set]
        refine w_goto (tgt := 2) C dX8_quarrelTicks_25 (by decide) ?_
        -- at 2: .iload_n 2
        exact ih (j + 1) (by omega)
  refine w_iconst (pc2 := 1) (v := iI 0) C dX8_quarrelTicks_0 (by decide) rfl ?_
  refine w_istore_n (pc2 := 2) C dX8_quarrelTicks_1 rfl (by decide) rfl rfl ?_
  try dsimp only [List.set]
  -- at 2: .iload_n 2
  have := key0 c 0 (by omega)
  rw [ov_0] at this
  exact this
theorem s_X10_quarrels (hy : Ly K R) {c : Nat} (hm : Mus J c) (ht : Tai J) : S_X10_quarrels [.ref 0] n K (zw J) L R (Det (some (.int (iI (qouC (lnJ J c) c c)))) n K (zw (lnJ J c)) L R) := by
  refine Sp_intro [some (.ref 0)] rfl rfl (Nat.le_of_ble_eq_true rfl) rfl ?_
  intro Γ C
  replace C : C_X10_quarrels Γ := C
  refine w_aload_n (pc2 := 1) C dX10_quarrels_0 rfl rfl ?_
  refine w_getR (pc2 := 4) C dX10_quarrels_1 fl_X10_28 (by first | exact hy.k _ | assumption) (by first | exact hy.r _ _ | assumption) rfl ?_
  refine w_getR (pc2 := 7) C dX10_quarrels_4 fl_X10_142 (by first | exact hy.k _ | assumption) (by first | exact hy.r _ _ | assumption) rfl ?_
  refine w_aload_n (pc2 := 8) C dX10_quarrels_7 rfl rfl ?_
  refine w_getR (pc2 := 11) C dX10_quarrels_8 fl_X10_28 (by first | exact hy.k _ | assumption) (by first | exact hy.r _ _ | assumption) rfl ?_
  refine w_getR (pc2 := 14) C dX10_quarrels_11 fl_X10_38 (by first | exact hy.k _ | assumption) (by first | exact hy.r _ _ | assumption) rfl ?_
  -- at 14: .invokevirtual 154
  refine w_cVi (pc2 := 17)  C dX10_quarrels_14 mb_X10_154 mv_X8_quarrelTicks (s_X8_quarrelTicks hy hm ht) (by first | exact hy.k _ | assumption) rfl (by decide) rfl rfl (Nat.le_of_ble_eq_true rfl) ⟨by decide, by decide⟩ ⟨rfl, rfl⟩ ⟨by decide, by decide⟩ rfl ?_
  -- at 17: .ireturn
  exact w_iret C dX10_quarrels_17 (by decide) (by decide) (⟨rfl, rfl, rfl, rfl, rfl, rfl⟩)
end QUAR
