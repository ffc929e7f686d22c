/-! ===== sounding and quarrelling, by the class ===== -/
/-- the SCORE's numbers are as they should be -/
def Mus (J : wJn) (c : Nat) : Prop := J 12 2 = c ∧ c ≤ 100 ∧ ∀ i, i < c → 0 ≤ J 13 i ∧ J 13 i ≤ 3000 ∧ 0 ≤ J 14 i ∧ J 14 i < 24
def Tai (J : wJn) : Prop := ∀ i, i < 24 → 1 ≤ J 16 i ∧ J 16 i ≤ 60
/-- how long STRIKE k sounds: looking from i on, d STRIKES left -/
def slF (tk bl : Nat → Int) (tail : Int) (k : Nat) : Nat → Nat → Int
  | 0, _ => tail
  | d + 1, i => if bl i = bl k then min tail (tk i - tk k) else slF tk bl tail k d (i + 1)
def sndC (J : wJn) (c k : Nat) : Int := slF (J 13) (J 14) (J 16 (J 14 k).toNat) k (c - (k + 1)) (k + 1)
theorem slF_bd {tk bl : Nat → Int} {tail : Int} {k c : Nat} (ht : -10000 ≤ tail ∧ tail ≤ 10000) (hk : k < c) (hb : ∀ i, i < c → 0 ≤ tk i ∧ tk i ≤ 3000) : ∀ d i, i + d ≤ c → -10000 ≤ slF tk bl tail k d i ∧ slF tk bl tail k d i ≤ 10000
  | 0, i, _ => ht
  | d + 1, i, h => by
    simp only [slF]
    have h1 := hb i (by omega)
    have h2 := hb k hk
    split
    · omega
    · exact slF_bd ht hk hb d (i + 1) (by omega)
theorem sndC_bd {J : wJn} {c k : Nat} (hm : Mus J c) (ht : Tai J) (hk : k < c) : -10000 ≤ sndC J c k ∧ sndC J c k ≤ 10000 := by
  have h1 := hm.2.2 k hk
  have h2 := ht (J 14 k).toNat (by omega)
  exact slF_bd (by omega) hk (fun i hi => ⟨(hm.2.2 i hi).1, (hm.2.2 i hi).2.1⟩) _ _ (by omega)
def qbit (bits r : Int) : Int32 := (iI bits >>> (iI r &&& 31)) &&& iI 1
def canQ (J : wJn) (a b : Nat) : Bool := decide (¬ (J 14 b - J 14 a).natAbs = 0 ∧ ¬ qbit (J 15 1) (((J 14 b - J 14 a).natAbs : Int) % 12) = 0)
section SOUND
variable {n : Nat} {K : wKd} {J : wJn} {L : wLn} {R : wRf}
theorem s_X5_bellsBetween (hy : Ly K R) {c a b : Nat} (hm : Mus J c) (ha : a < c) (hb : b < c) : S_X5_bellsBetween [.ref 12, .int (iI a), .int (iI b)] n K (zw J) L R (Det (some (.int (iI (J 14 b - J 14 a).natAbs))) n K (zw J) L R) := by
  have h1 := hm.2.1
  have h2 := hm.2.2 a ha
  have h3 := hm.2.2 b hb
  refine Sp_intro [some (.ref 12), some (.int (iI a)), some (.int (iI b))] rfl rfl (Nat.le_of_ble_eq_true rfl) rfl ?_
  intro Γ C
  replace C : C_X5_bellsBetween Γ := C
  refine w_aload_n (pc2 := 1) C dX5_bellsBetween_0 rfl rfl ?_
  refine w_getR (pc2 := 4) C dX5_bellsBetween_1 fl_X5_15 (by first | exact hy.k _ | assumption) (by first | exact hy.r _ _ | assumption) rfl ?_
  refine w_iload_n (pc2 := 5) C dX5_bellsBetween_4 rfl rfl ?_
  -- at 5: .iaload
  refine z_iald (pc2 := 6) (j := b) C dX5_bellsBetween_5 (by first | exact hy.k _ | assumption) (by omega) (by omega) (by decide) rfl ?_
  refine w_aload_n (pc2 := 7) C dX5_bellsBetween_6 rfl rfl ?_
  refine w_getR (pc2 := 10) C dX5_bellsBetween_7 fl_X5_15 (by first | exact hy.k _ | assumption) (by first | exact hy.r _ _ | assumption) rfl ?_
  refine w_iload_n (pc2 := 11) C dX5_bellsBetween_10 rfl rfl ?_
  -- at 11: .iaload
  refine z_iald (pc2 := 12) (j := a) C dX5_bellsBetween_11 (by first | exact hy.k _ | assumption) (by omega) (by omega) (by decide) rfl ?_
  refine z_isub (pc2 := 13) C dX5_bellsBetween_12 rfl ?_
  refine z_mabs (pc2 := 16) C dX5_bellsBetween_13 mm_X5_25 jm_abs jm_ini jc_abs (by decide) (Nat.le_of_ble_eq_true rfl) (by decide) (by decide) rfl (by omega) ?_
  -- at 16: .ireturn
  exact w_iret C dX5_bellsBetween_16 (by decide) (by decide) (⟨rfl, rfl, rfl, rfl, rfl, rfl⟩)
theorem s_X8_soundLength (hy : Ly K R) {c k : Nat} (hm : Mus J c) (ht : Tai J) (hk : k < c) : S_X8_soundLength [.ref 15, .ref 12, .int (iI k)] n K (zw J) L R (Det (some (.int (iI (sndC J c k)))) n K (zw J) L R) := by
  have hc := hm.1
  have hc2 := hm.2.1
  have h2 := hm.2.2 k hk
  have h3 := ht (J 14 k).toNat (by omega)
  refine Sp_intro [some (.ref 15), some (.ref 12), some (.int (iI k)), none, none] rfl rfl (Nat.le_of_ble_eq_true rfl) rfl ?_
  intro Γ C
  replace C : C_X8_soundLength Γ := C
  have key : ∀ (d i : Nat), i + d = c → ∀ v : Int, v = slF (J 13) (J 14) (J 16 (J 14 k).toNat) k d i → wp Γ 0 0 (QQ Γ (Det (some (.int (iI v))) n K (zw J) L R)) 17 [some (.ref 15), some (.ref 12), some (.int (iI k)), some (.int (iI (J 16 (J 14 k).toNat))), some (.int (iI i))] [] n K (zw J) L R := by
    intro d
    induction d with
    | zero =>
      intro i hi v hv
      refine w_iload (pc2 := 19) C dX8_soundLength_17 rfl rfl ?_
      refine w_aload_n (pc2 := 20) C dX8_soundLength_19 rfl rfl ?_
      refine z_getI (pc2 := 23) C dX8_soundLength_20 fl_X8_27 (by first | exact hy.k _ | assumption) rfl ?_
      -- at 23: .if_icmp .ge 44
      refine z_icmp_ge (pc2 := 26) (tgt := 67) C dX8_soundLength_23 (by decide) rfl (by omega) (by omega) (fun h4 => ?_) (fun h4 => ?_)
      · skip
        refine w_iload_n (pc2 := 68) C dX8_soundLength_67 rfl rfl ?_
        -- at 68: .ireturn
        exact w_iret C dX8_soundLength_68 (by decide) (by decide) (DetI (by rw [hv]; rfl) rfl)
      · exact absurd hi (by omega)
    | succ d ih =>
      intro i hi v hv
      have h5 := hm.2.2 i (by omega)
      refine w_iload (pc2 := 19) C dX8_soundLength_17 rfl rfl ?_
      refine w_aload_n (pc2 := 20) C dX8_soundLength_19 rfl rfl ?_
      refine z_getI (pc2 := 23) C dX8_soundLength_20 fl_X8_27 (by first | exact hy.k _ | assumption) rfl ?_
      -- at 23: .if_icmp .ge 44
      refine z_icmp_ge (pc2 := 26) (tgt := 67) C dX8_soundLength_23 (by decide) rfl (by omega) (by omega) (fun h4 => ?_) (fun h4 => ?_)
      · exact absurd hi (by omega)
      · skip
        refine w_aload_n (pc2 := 27) C dX8_soundLength_26 rfl rfl ?_
        refine w_getR (pc2 := 30) C dX8_soundLength_27 fl_X8_22 (by first | exact hy.k _ | assumption) (by first | exact hy.r _ _ | assumption) rfl ?_
        refine w_iload (pc2 := 32) C dX8_soundLength_30 rfl rfl ?_
        -- at 32: .iaload
        refine z_iald (pc2 := 33) (j := i) C dX8_soundLength_32 (by first | exact hy.k _ | assumption) (by omega) (by omega) (by decide) rfl ?_
        refine w_aload_n (pc2 := 34) C dX8_soundLength_33 rfl rfl ?_
        refine w_getR (pc2 := 37) C dX8_soundLength_34 fl_X8_22 (by first | exact hy.k _ | assumption) (by first | exact hy.r _ _ | assumption) rfl ?_
        refine w_iload_n (pc2 := 38) C dX8_soundLength_37 rfl rfl ?_
        -- at 38: .iaload
        refine z_iald (pc2 := 39) (j := k) C dX8_soundLength_38 (by first | exact hy.k _ | assumption) (by omega) (by omega) (by decide) rfl ?_
        -- at 39: .if_icmp .ne 22
        refine z_icmp_ne (pc2 := 42) (tgt := 61) C dX8_soundLength_39 (by decide) rfl (by omega) (by omega) (fun h6 => ?_) (fun h6 => ?_)
        · skip
          refine w_iinc (pc2 := 64) C dX8_soundLength_61 rfl (iI_add _ _) rfl (by decide) rfl rfl ?_
          try dsimp only [List.set]
          refine w_goto (tgt := 17) C dX8_soundLength_64 (by decide) ?_
          -- at 17: .iload 4
          exact ih (i + 1) (by omega) v (by rw [hv, slF, if_neg h6])
        · skip
          refine w_iload_n (pc2 := 43) C dX8_soundLength_42 rfl rfl ?_
          refine w_aload_n (pc2 := 44) C dX8_soundLength_43 rfl rfl ?_
          refine w_getR (pc2 := 47) C dX8_soundLength_44 fl_X8_30 (by first | exact hy.k _ | assumption) (by first | exact hy.r _ _ | assumption) rfl ?_
          refine w_iload (pc2 := 49) C dX8_soundLength_47 rfl rfl ?_
          -- at 49: .iaload
          refine z_iald (pc2 := 50) (j := i) C dX8_soundLength_49 (by first | exact hy.k _ | assumption) (by omega) (by omega) (by decide) rfl ?_
          refine w_aload_n (pc2 := 51) C dX8_soundLength_50 rfl rfl ?_
          refine w_getR (pc2 := 54) C dX8_soundLength_51 fl_X8_30 (by first | exact hy.k _ | assumption) (by first | exact hy.r _ _ | assumption) rfl ?_
          refine w_iload_n (pc2 := 55) C dX8_soundLength_54 rfl rfl ?_
          -- at 55: .iaload
          refine z_iald (pc2 := 56) (j := k) C dX8_soundLength_55 (by first | exact hy.k _ | assumption) (by omega) (by omega) (by decide) rfl ?_
          refine z_isub (pc2 := 57) C dX8_soundLength_56 rfl ?_
          refine z_mmin (pc2 := 60) C dX8_soundLength_57 mm_X8_33 jm_min jm_ini jc_min (by decide) (Nat.le_of_ble_eq_true rfl) (by decide) (by decide) rfl (by omega) (by omega) ?_
          -- at 60: .ireturn
          exact w_iret C dX8_soundLength_60 (by decide) (by decide) (DetI (by rw [hv, slF, if_pos h6]) rfl)
  refine w_aload_n (pc2 := 1) C dX8_soundLength_0 rfl rfl ?_
  refine w_getR (pc2 := 4) C dX8_soundLength_1 fl_X8_9 (by first | exact hy.k _ | assumption) (by first | exact hy.r _ _ | assumption) rfl ?_
  refine w_aload_n (pc2 := 5) C dX8_soundLength_4 rfl rfl ?_
  refine w_getR (pc2 := 8) C dX8_soundLength_5 fl_X8_22 (by first | exact hy.k _ | assumption) (by first | exact hy.r _ _ | assumption) rfl ?_
  refine w_iload_n (pc2 := 9) C dX8_soundLength_8 rfl rfl ?_
  -- at 9: .iaload
  refine z_iald (pc2 := 10) (j := k) C dX8_soundLength_9 (by first | exact hy.k _ | assumption) (by omega) (by omega) (by decide) rfl ?_
  refine z_iald (pc2 := 11) (j := (J 14 k).toNat) C dX8_soundLength_10 (by first | exact hy.k _ | assumption) (by omega) (by omega) (by decide) rfl ?_
  refine w_istore_n (pc2 := 12) C dX8_soundLength_11 rfl (by decide) rfl rfl ?_
  try dsimp only [List.set]
  refine w_iload_n (pc2 := 13) C dX8_soundLength_12 rfl rfl ?_
  refine w_iconst (pc2 := 14) (v := iI 1) C dX8_soundLength_13 (by decide) rfl ?_
  refine z_iadd (pc2 := 15) C dX8_soundLength_14 rfl ?_
  refine w_istore (pc2 := 17) C dX8_soundLength_15 rfl (by decide) rfl rfl ?_
  try dsimp only [List.set]
  -- at 17: .iload 4
  exact key (c - (k + 1)) (k + 1) (by omega) _ rfl
theorem s_X10_sounds (hy : Ly K R) {c : Nat} {a : Int} (hm : Mus J c) (ht : Tai J) (ha : R32 a) : S_X10_sounds [.ref 0, .int (iI a)] n K (zw J) L R (Det (some (.int (iI (if 0 ≤ a ∧ a < c then sndC J c a.toNat else -1)))) n K (zw J) L R) := by
  have hc := hm.1
  have hc2 := hm.2.1
  refine Sp_intro [some (.ref 0), some (.int (iI a))] rfl rfl (Nat.le_of_ble_eq_true rfl) rfl ?_
  intro Γ C
  replace C : C_X10_sounds Γ := C
  refine w_aload_n (pc2 := 1) C dX10_sounds_0 rfl rfl ?_
  refine w_getR (pc2 := 4) C dX10_sounds_1 fl_X10_28 (by first | exact hy.k _ | assumption) (by first | exact hy.r _ _ | assumption) rfl ?_
  refine w_getR (pc2 := 7) C dX10_sounds_4 fl_X10_38 (by first | exact hy.k _ | assumption) (by first | exact hy.r _ _ | assumption) rfl ?_
  refine w_iload_n (pc2 := 8) C dX10_sounds_7 rfl rfl ?_
  -- at 8: .invokevirtual 99
  refine w_cVi (pc2 := 11)  C dX10_sounds_8 mb_X10_99 mv_X5_has (s_X5_has (hy.k 12) ha (by omega)) (by first | exact hy.k _ | assumption) rfl (by decide) rfl rfl (Nat.le_of_ble_eq_true rfl) ⟨by decide, by decide⟩ ⟨rfl, rfl⟩ ⟨by decide, by decide⟩ rfl ?_
  -- at 11: .ifCond .ne 5
  refine z_if_ne (pc2 := 14) (tgt := 16) C dX10_sounds_11 (by decide) rfl (by split <;> omega) (fun h1 => ?_) (fun h1 => ?_)
  · have h2 : 0 ≤ a ∧ a < c := by
      rcases Decidable.em (0 ≤ a ∧ a < J 12 2) with q | q
      · omega
      · rw [if_neg q] at h1; exact absurd rfl h1
    have e : a = (a.toNat : Int) := by omega
    refine w_aload_n (pc2 := 17) C dX10_sounds_16 rfl rfl ?_
    refine w_getR (pc2 := 20) C dX10_sounds_17 fl_X10_28 (by first | exact hy.k _ | assumption) (by first | exact hy.r _ _ | assumption) rfl ?_
    refine w_getR (pc2 := 23) C dX10_sounds_20 fl_X10_142 (by first | exact hy.k _ | assumption) (by first | exact hy.r _ _ | assumption) rfl ?_
    refine w_aload_n (pc2 := 24) C dX10_sounds_23 rfl rfl ?_
    refine w_getR (pc2 := 27) C dX10_sounds_24 fl_X10_28 (by first | exact hy.k _ | assumption) (by first | exact hy.r _ _ | assumption) rfl ?_
    refine w_getR (pc2 := 30) C dX10_sounds_27 fl_X10_38 (by first | exact hy.k _ | assumption) (by first | exact hy.r _ _ | assumption) rfl ?_
    refine w_iload_n (pc2 := 31) C dX10_sounds_30 rfl rfl ?_
    -- at 31: .invokevirtual 158
    rw [e]
    refine w_cVi (pc2 := 34)  C dX10_sounds_31 mb_X10_158 mv_X8_soundLength (s_X8_soundLength hy hm ht (k := a.toNat) (by omega)) (by first | exact hy.k _ | assumption) rfl (by decide) rfl rfl (Nat.le_of_ble_eq_true rfl) ⟨by decide, by decide⟩ ⟨rfl, rfl⟩ ⟨by decide, by decide⟩ rfl ?_
    -- at 34: .ireturn
    exact w_iret C dX10_sounds_34 (by decide) (by decide) (DetI (by rw [if_pos (by omega)]; rfl) rfl)
  · have h2 : ¬ (0 ≤ a ∧ a < c) := by
      intro q
      rw [if_pos (by omega)] at h1; exact absurd h1 (by decide)
    refine w_iconst (pc2 := 15) (v := iI (-1)) C dX10_sounds_14 (by decide) rfl ?_
    -- at 15: .ireturn
    exact w_iret C dX10_sounds_15 (by decide) (by decide) (DetI (by rw [if_neg h2]) rfl)
theorem s_X8_canQuarrel (hy : Ly K R) {c a b : Nat} (hm : Mus J c) (ha : a < c) (hb : b < c) : S_X8_canQuarrel [.ref 15, .ref 12, .int (iI a), .int (iI b)] n K (zw J) L R (Det (some (.int (iI (if canQ J a b = true then 1 else 0)))) n K (zw J) L R) := by
  have h2 := hm.2.2 a ha
  have h3 := hm.2.2 b hb
  refine Sp_intro [some (.ref 15), some (.ref 12), some (.int (iI a)), some (.int (iI b)), none] rfl rfl (Nat.le_of_ble_eq_true rfl) rfl ?_
  intro Γ C
  replace C : C_X8_canQuarrel Γ := C
  refine w_aload_n (pc2 := 1) C dX8_canQuarrel_0 rfl rfl ?_
  refine w_iload_n (pc2 := 2) C dX8_canQuarrel_1 rfl rfl ?_
  refine w_iload_n (pc2 := 3) C dX8_canQuarrel_2 rfl rfl ?_
  -- at 3: .invokevirtual 51
  refine w_cVi (pc2 := 6)  C dX8_canQuarrel_3 mb_X8_51 mv_X5_bellsBetween (s_X5_bellsBetween hy hm ha hb) (by first | exact hy.k _ | assumption) rfl (by decide) rfl rfl (Nat.le_of_ble_eq_true rfl) ⟨by decide, by decide⟩ ⟨rfl, rfl⟩ ⟨by decide, by decide⟩ rfl ?_
  refine w_istore (pc2 := 8) C dX8_canQuarrel_6 rfl (by decide) rfl rfl ?_
  try dsimp only [List.set]
  refine w_iload (pc2 := 10) C dX8_canQuarrel_8 rfl rfl ?_
  -- at 10: .ifCond .eq 22
  refine z_if_eq (pc2 := 13) (tgt := 32) C dX8_canQuarrel_10 (by decide) rfl (by omega) (fun h4 => ?_) (fun h4 => ?_)
  · skip
    refine w_iconst (pc2 := 33) (v := iI 0) C dX8_canQuarrel_32 (by decide) rfl ?_
    -- at 33: .ireturn
    exact w_zret C dX8_canQuarrel_33 (Or.inl rfl) (by decide) (by decide) (DetI (by rw [if_neg (by simp only [canQ, decide_eq_true_eq]; intro q; exact q.1 (by omega))]) rfl)
  · skip
    refine w_aload_n (pc2 := 14) C dX8_canQuarrel_13 rfl rfl ?_
    refine z_getI (pc2 := 17) C dX8_canQuarrel_14 fl_X8_15 (by first | exact hy.k _ | assumption) rfl ?_
    refine w_iload (pc2 := 19) C dX8_canQuarrel_17 rfl rfl ?_
    refine w_bipush (pc2 := 21) (v := iI 12) C dX8_canQuarrel_19 (by decide) rfl ?_
    -- at 21: .irem
    refine z_irem (pc2 := 22) C dX8_canQuarrel_21 (by omega) rfl ?_
    refine w_ishr (pc2 := 23) C dX8_canQuarrel_22 rfl ?_
    refine w_iconst (pc2 := 24) (v := iI 1) C dX8_canQuarrel_23 (by decide) rfl ?_
    refine w_iand (pc2 := 25) C dX8_canQuarrel_24 rfl ?_
    -- at 25: .ifCond .eq 7
    refine w_if_eq (pc2 := 28) (tgt := 32) C dX8_canQuarrel_25 (by decide) rfl (fun h5 => ?_) (fun h5 => ?_)
    · skip
      refine w_iconst (pc2 := 33) (v := iI 0) C dX8_canQuarrel_32 (by decide) rfl ?_
      -- at 33: .ireturn
      exact w_zret C dX8_canQuarrel_33 (Or.inl rfl) (by decide) (by decide) (DetI (by rw [if_neg (by simp only [canQ, decide_eq_true_eq]; intro q; exact q.2 h5)]) rfl)
    · skip
      refine w_iconst (pc2 := 29) (v := iI 1) C dX8_canQuarrel_28 (by decide) rfl ?_
      refine w_goto (tgt := 33) C dX8_canQuarrel_29 (by decide) ?_
      -- at 33: .ireturn
      exact w_zret C dX8_canQuarrel_33 (Or.inr rfl) (by decide) (by decide) (DetI (by rw [if_pos (by simp only [canQ, decide_eq_true_eq]; exact ⟨by omega, h5⟩)]) rfl)
theorem s_X8_ticksTogether (hy : Ly K R) {c a b : Nat} (hm : Mus J c) (ha : a < c) (hb : b < c) (hla : -10000 ≤ J 17 a ∧ J 17 a ≤ 10000) (hlb : -10000 ≤ J 17 b ∧ J 17 b ≤ 10000) : S_X8_ticksTogether [.ref 15, .ref 12, .int (iI a), .int (iI b)] n K (zw J) L R (Det (some (.int (iI (max 0 (min (J 13 a + J 17 a) (J 13 b + J 17 b) - J 13 b))))) n K (zw J) L R) := by
  have h1 := hm.2.1
  have h2 := hm.2.2 a ha
  have h3 := hm.2.2 b hb
  refine Sp_intro [some (.ref 15), some (.ref 12), some (.int (iI a)), some (.int (iI b)), none, none] rfl rfl (Nat.le_of_ble_eq_true rfl) rfl ?_
  intro Γ C
  replace C : C_X8_ticksTogether Γ := C
  refine w_aload_n (pc2 := 1) C dX8_ticksTogether_0 rfl rfl ?_
  refine w_getR (pc2 := 4) C dX8_ticksTogether_1 fl_X8_30 (by first | exact hy.k _ | assumption) (by first | exact hy.r _ _ | assumption) rfl ?_
  refine w_iload_n (pc2 := 5) C dX8_ticksTogether_4 rfl rfl ?_
  -- at 5: .iaload
  refine z_iald (pc2 := 6) (j := a) C dX8_ticksTogether_5 (by first | exact hy.k _ | assumption) (by omega) (by omega) (by decide) rfl ?_
  refine w_aload_n (pc2 := 7) C dX8_ticksTogether_6 rfl rfl ?_
  refine w_getR (pc2 := 10) C dX8_ticksTogether_7 fl_X8_19 (by first | exact hy.k _ | assumption) (by first | exact hy.r _ _ | assumption) rfl ?_
  refine w_iload_n (pc2 := 11) C dX8_ticksTogether_10 rfl rfl ?_
  -- at 11: .iaload
  refine z_iald (pc2 := 12) (j := a) C dX8_ticksTogether_11 (by first | exact hy.k _ | assumption) (by omega) (by omega) (by decide) rfl ?_
  refine z_iadd (pc2 := 13) C dX8_ticksTogether_12 rfl ?_
  refine w_istore (pc2 := 15) C dX8_ticksTogether_13 rfl (by decide) rfl rfl ?_
  try dsimp only [List.set]
  refine w_aload_n (pc2 := 16) C dX8_ticksTogether_15 rfl rfl ?_
  refine w_getR (pc2 := 19) C dX8_ticksTogether_16 fl_X8_30 (by first | exact hy.k _ | assumption) (by first | exact hy.r _ _ | assumption) rfl ?_
  refine w_iload_n (pc2 := 20) C dX8_ticksTogether_19 rfl rfl ?_
  -- at 20: .iaload
  refine z_iald (pc2 := 21) (j := b) C dX8_ticksTogether_20 (by first | exact hy.k _ | assumption) (by omega) (by omega) (by decide) rfl ?_
  refine w_aload_n (pc2 := 22) C dX8_ticksTogether_21 rfl rfl ?_
  refine w_getR (pc2 := 25) C dX8_ticksTogether_22 fl_X8_19 (by first | exact hy.k _ | assumption) (by first | exact hy.r _ _ | assumption) rfl ?_
  refine w_iload_n (pc2 := 26) C dX8_ticksTogether_25 rfl rfl ?_
  -- at 26: .iaload
  refine z_iald (pc2 := 27) (j := b) C dX8_ticksTogether_26 (by first | exact hy.k _ | assumption) (by omega) (by omega) (by decide) rfl ?_
  refine z_iadd (pc2 := 28) C dX8_ticksTogether_27 rfl ?_
  refine w_istore (pc2 := 30) C dX8_ticksTogether_28 rfl (by decide) rfl rfl ?_
  try dsimp only [List.set]
  refine w_iconst (pc2 := 31) (v := iI 0) C dX8_ticksTogether_30 (by decide) rfl ?_
  refine w_iload (pc2 := 33) C dX8_ticksTogether_31 rfl rfl ?_
  refine w_iload (pc2 := 35) C dX8_ticksTogether_33 rfl rfl ?_
  refine z_mmin (pc2 := 38) C dX8_ticksTogether_35 mm_X8_33 jm_min jm_ini jc_min (by decide) (Nat.le_of_ble_eq_true rfl) (by decide) (by decide) rfl (by omega) (by omega) ?_
  refine w_aload_n (pc2 := 39) C dX8_ticksTogether_38 rfl rfl ?_
  refine w_getR (pc2 := 42) C dX8_ticksTogether_39 fl_X8_30 (by first | exact hy.k _ | assumption) (by first | exact hy.r _ _ | assumption) rfl ?_
  refine w_iload_n (pc2 := 43) C dX8_ticksTogether_42 rfl rfl ?_
  -- at 43: .iaload
  refine z_iald (pc2 := 44) (j := b) C dX8_ticksTogether_43 (by first | exact hy.k _ | assumption) (by omega) (by omega) (by decide) rfl ?_
  refine z_isub (pc2 := 45) C dX8_ticksTogether_44 rfl ?_
  refine z_mmax (pc2 := 48) C dX8_ticksTogether_45 mm_X8_54 jm_max jm_ini jc_max (by decide) (Nat.le_of_ble_eq_true rfl) (by decide) (by decide) rfl (by omega) (by omega) ?_
  -- at 48: .ireturn
  exact w_iret C dX8_ticksTogether_48 (by decide) (by decide) (⟨rfl, rfl, rfl, rfl, rfl, rfl⟩)
end SOUND
