def k4 (K : wKd) (n : Nat) : wKd := nK (nK (nK (nK (kSc (nK K n (5, 0)) (n + 1)) (n + 3) (100, 4)) (n + 4) (100, 4)) (n + 5) (100, 4)) (n + 6) (100, 4)
def j4 (J : wJn) (n : Nat) : wJn := nJ (nJ (nJ (nJ (jSc (nJ J n) (n + 1) n) (n + 3)) (n + 4)) (n + 5)) (n + 6)
def l4 (L : wLn) (n : Nat) : wLn := nL1 (nL1 (nL1 (nL1 (lSc (nL1 L n) (n + 1)) (n + 3)) (n + 4)) (n + 5)) (n + 6)
def r4 (R : wRf) (n b c : Nat) : wRf := up2 (up2 (nR (up2 (nR (up2 (nR (up2 (nR (up2 (rSc (nR R n) (n + 1) n) b 0 (some n)) (n + 3)) b 4 (some (n + 3))) (n + 4)) b 5 (some (n + 4))) (n + 5)) b 6 (some (n + 5))) (n + 6)) b 7 (some (n + 6))) b 3 (some c)
/-- a new desk -/
def Dsk (K : wKd) (J : wJn) (L : wLn) (R : wRf) : Prop := (∀ i, i < 34 → K i = KT i) ∧ (∀ i, i < 34 ∧ i ≠ 23 → ∀ k, R i k = RT i k) ∧ (R 23 0 = none ∧ R 23 1 = none) ∧ J 0 7 = 0 ∧ J 1 1 = 0 ∧ (J 11 4 = 0 ∧ J 11 5 = -1 ∧ J 11 6 = 4 ∧ J 11 7 = 100) ∧ (J 12 2 = 0 ∧ J 12 3 = 0) ∧ (∀ k, k < 24 → J 16 k = 8) ∧ J 15 1 = 3142 ∧ (J 18 2 = 0 ∧ J 18 3 = 64 ∧ J 18 4 = -1) ∧ (∀ k, L 22 k = 0)
section INITS
variable {n : Nat} {K : wKd} {J : wJn} {L : wLn} {R : wRf}
theorem s_X4_init {b c : Nat} (hk : K b = (4, 0)) (hb : b < n) : S_X4_init [.ref b, .ref c] n K (zw J) L R (Det none (n + 7) (k4 K n) (zw (j4 J n)) (l4 L n) (r4 R n b c)) := by
  refine Sp_intro [some (.ref b), some (.ref c)] rfl rfl (Nat.le_of_ble_eq_true rfl) rfl ?_
  intro Γ C
  replace C : C_X4_init Γ := C
  refine w_aload_n (pc2 := 1) C dX4_init_0 rfl rfl ?_
  refine w_objInit (pc2 := 4) C dX4_init_1 ob_X4_3 jo_i jo_c (by decide) (Nat.le_of_ble_eq_true rfl) rfl ?_
  refine w_aload_n (pc2 := 5) C dX4_init_4 rfl rfl ?_
  refine z_new (pc2 := 8) C dX4_init_5 nw_X4_9 (by decide) (by decide) rfl ?_
  refine w_dup (pc2 := 9) C dX4_init_8 rfl rfl ?_
  -- at 9: .invokespecial 11
  refine w_callIN (pc2 := 12) C dX4_init_9 mn_X4_11 mi_X5_init (s_X5_init (b := n) (up1_s _ _ _) (by omega)) rfl rfl (Nat.le_of_ble_eq_true rfl) ⟨by decide, by decide⟩ ⟨by decide, by decide⟩ rfl ?_
  rintro r2 n2 K2 I2 L2 R2 hD
  obtain ⟨d1, d2, d3, d4, d5, d6⟩ := hD
  replace d2 := d2.symm
  replace d3 := d3.symm
  replace d5 := d5.symm
  replace d6 := d6.symm
  subst d1
  subst d2
  subst d3
  subst d4
  subst d5
  subst d6
  refine w_putR (pc2 := 15) C dX4_init_12 fl_X4_12 (by first | exact hy.k _ | assumption | rfl | ((try simp only [kM, kTo, kSc, nK]); (repeat rw [up1_n _ _ _ (by omega)]); first | assumption | exact up1_s _ _ _)) rfl rfl (by rfl) (by rfl) rfl ?_
  refine w_aload_n (pc2 := 16) C dX4_init_15 rfl rfl ?_
  refine w_iconst (pc2 := 17) (v := iI 4) C dX4_init_16 (by decide) rfl ?_
  refine z_newarr (pc2 := 19) (t := 100) (m := 4) C dX4_init_17 (by simp) ac_int (by rfl) (by decide) (by decide) (by decide) rfl ?_
  refine w_putR (pc2 := 22) C dX4_init_19 fl_X4_18 (by first | exact hy.k _ | assumption | rfl | ((try simp only [kM, kTo, kSc, nK]); (repeat rw [up1_n _ _ _ (by omega)]); first | assumption | exact up1_s _ _ _)) rfl rfl (by rfl) (by rfl) rfl ?_
  refine w_aload_n (pc2 := 23) C dX4_init_22 rfl rfl ?_
  refine w_iconst (pc2 := 24) (v := iI 4) C dX4_init_23 (by decide) rfl ?_
  refine z_newarr (pc2 := 26) (t := 100) (m := 4) C dX4_init_24 (by simp) ac_int (by rfl) (by decide) (by decide) (by decide) rfl ?_
  refine w_putR (pc2 := 29) C dX4_init_26 fl_X4_22 (by first | exact hy.k _ | assumption | rfl | ((try simp only [kM, kTo, kSc, nK]); (repeat rw [up1_n _ _ _ (by omega)]); first | assumption | exact up1_s _ _ _)) rfl rfl (by rfl) (by rfl) rfl ?_
  refine w_aload_n (pc2 := 30) C dX4_init_29 rfl rfl ?_
  refine w_iconst (pc2 := 31) (v := iI 4) C dX4_init_30 (by decide) rfl ?_
  refine z_newarr (pc2 := 33) (t := 100) (m := 4) C dX4_init_31 (by simp) ac_int (by rfl) (by decide) (by decide) (by decide) rfl ?_
  refine w_putR (pc2 := 36) C dX4_init_33 fl_X4_25 (by first | exact hy.k _ | assumption | rfl | ((try simp only [kM, kTo, kSc, nK]); (repeat rw [up1_n _ _ _ (by omega)]); first | assumption | exact up1_s _ _ _)) rfl rfl (by rfl) (by rfl) rfl ?_
  refine w_aload_n (pc2 := 37) C dX4_init_36 rfl rfl ?_
  refine w_iconst (pc2 := 38) (v := iI 4) C dX4_init_37 (by decide) rfl ?_
  refine z_newarr (pc2 := 40) (t := 100) (m := 4) C dX4_init_38 (by simp) ac_int (by rfl) (by decide) (by decide) (by decide) rfl ?_
  refine w_putR (pc2 := 43) C dX4_init_40 fl_X4_28 (by first | exact hy.k _ | assumption | rfl | ((try simp only [kM, kTo, kSc, nK]); (repeat rw [up1_n _ _ _ (by omega)]); first | assumption | exact up1_s _ _ _)) rfl rfl (by rfl) (by rfl) rfl ?_
  refine w_aload_n (pc2 := 44) C dX4_init_43 rfl rfl ?_
  refine w_aload_n (pc2 := 45) C dX4_init_44 rfl rfl ?_
  refine w_putR (pc2 := 48) C dX4_init_45 fl_X4_31 (by first | exact hy.k _ | assumption | rfl | ((try simp only [kM, kTo, kSc, nK]); (repeat rw [up1_n _ _ _ (by omega)]); first | assumption | exact up1_s _ _ _)) rfl rfl (by rfl) (by rfl) rfl ?_
  -- at 48: .return_
  exact w_ret C dX4_init_48 (by decide) (by decide) (⟨rfl, rfl, rfl, rfl, rfl, rfl⟩)
theorem s_X10_init (hk : K 0 = (10, 0)) (hr : ∀ k, R 0 k = none) : S_X10_init [.ref 0] 1 K (zw J) L R (fun r2 n2 K2 I2 L2 R2 => ∃ (K3 : wKd) (J3 : wJn) (L3 : wLn) (R3 : wRf), Det none 34 K3 (zw J3) L3 R3 r2 n2 K2 I2 L2 R2 ∧ Dsk K3 J3 L3 R3) := by
  refine Sp_intro [some (.ref 0)] rfl rfl (Nat.le_of_ble_eq_true rfl) rfl ?_
  intro Γ C
  replace C : C_X10_init Γ := C
  refine w_aload_n (pc2 := 1) C dX10_init_0 rfl rfl ?_
  refine w_objInit (pc2 := 4) C dX10_init_1 ob_X10_1 jo_i jo_c (by decide) (Nat.le_of_ble_eq_true rfl) rfl ?_
  refine w_aload_n (pc2 := 5) C dX10_init_4 rfl rfl ?_
  refine z_new (pc2 := 8) C dX10_init_5 nw_X10_7 (by decide) (by decide) rfl ?_
  refine w_dup (pc2 := 9) C dX10_init_8 rfl rfl ?_
  -- at 9: .invokespecial 9
  refine w_callIN (pc2 := 12) C dX10_init_9 mn_X10_9 mi_X7_init (s_X7_init (b := 1) (up1_s _ _ _) (by omega)) rfl rfl (Nat.le_of_ble_eq_true rfl) ⟨by decide, by decide⟩ ⟨by decide, by decide⟩ rfl ?_
  rintro r2 n2 K2 I2 L2 R2 hD
  obtain ⟨d1, d2, d3, d4, d5, d6⟩ := hD
  replace d2 := d2.symm
  replace d3 := d3.symm
  replace d5 := d5.symm
  replace d6 := d6.symm
  subst d1
  subst d2
  subst d3
  subst d4
  subst d5
  subst d6
  refine w_putR (pc2 := 15) C dX10_init_12 fl_X10_10 (by first | exact hy.k _ | assumption | rfl | ((try simp only [kM, kTo, kSc, nK]); (repeat rw [up1_n _ _ _ (by omega)]); first | assumption | exact up1_s _ _ _)) rfl rfl (by rfl) (by rfl) rfl ?_
  refine w_aload_n (pc2 := 16) C dX10_init_15 rfl rfl ?_
  refine z_new (pc2 := 19) C dX10_init_16 nw_X10_16 (by decide) (by decide) rfl ?_
  refine w_dup (pc2 := 20) C dX10_init_19 rfl rfl ?_
  refine w_aload_n (pc2 := 21) C dX10_init_20 rfl rfl ?_
  refine w_getR (pc2 := 24) C dX10_init_21 fl_X10_10 (by first | exact hy.k _ | assumption | rfl | ((try simp only [kM, kTo, kSc, nK]); (repeat rw [up1_n _ _ _ (by omega)]); first | assumption | exact up1_s _ _ _)) (by first | exact hy.r _ _ | assumption | rfl | (simp [rM, rTo, rSc, nR, up1, up2]; done)) rfl ?_
  -- at 24: .invokespecial 18
  refine w_callI (pc2 := 27) C dX10_init_24 mb_X10_18 mi_X4_init (s_X4_init (b := 3) (up1_s _ _ _) (by omega)) rfl rfl (Nat.le_of_ble_eq_true rfl) ⟨by decide, by decide⟩ ⟨by decide, by decide⟩ rfl ?_
  rintro r2 n2 K2 I2 L2 R2 hD
  obtain ⟨d1, d2, d3, d4, d5, d6⟩ := hD
  replace d2 := d2.symm
  replace d3 := d3.symm
  replace d5 := d5.symm
  replace d6 := d6.symm
  subst d1
  subst d2
  subst d3
  subst d4
  subst d5
  subst d6
  refine w_putR (pc2 := 30) C dX10_init_27 fl_X10_21 (by first | exact hy.k _ | assumption | rfl | ((try simp only [kM, kTo, kSc, nK]); (repeat rw [up1_n _ _ _ (by omega)]); first | assumption | exact up1_s _ _ _)) rfl rfl (by rfl) (by rfl) rfl ?_
  refine w_aload_n (pc2 := 31) C dX10_init_30 rfl rfl ?_
  refine z_new (pc2 := 34) C dX10_init_31 nw_X10_25 (by decide) (by decide) rfl ?_
  refine w_dup (pc2 := 35) C dX10_init_34 rfl rfl ?_
  -- at 35: .invokespecial 27
  refine w_callIN (pc2 := 38) C dX10_init_35 mn_X10_27 mi_X2_init (s_X2_init (b := 11) (up1_s _ _ _) (by omega)) rfl rfl (Nat.le_of_ble_eq_true rfl) ⟨by decide, by decide⟩ ⟨by decide, by decide⟩ rfl ?_
  rintro r2 n2 K2 I2 L2 R2 hD
  obtain ⟨d1, d2, d3, d4, d5, d6⟩ := hD
  replace d2 := d2.symm
  replace d3 := d3.symm
  replace d5 := d5.symm
  replace d6 := d6.symm
  subst d1
  subst d2
  subst d3
  subst d4
  subst d5
  subst d6
  refine w_putR (pc2 := 41) C dX10_init_38 fl_X10_28 (by first | exact hy.k _ | assumption | rfl | ((try simp only [kM, kTo, kSc, nK]); (repeat rw [up1_n _ _ _ (by omega)]); first | assumption | exact up1_s _ _ _)) rfl rfl (by rfl) (by rfl) rfl ?_
  refine w_aload_n (pc2 := 42) C dX10_init_41 rfl rfl ?_
  refine w_iconst (pc2 := 43) (v := iI 2) C dX10_init_42 (by decide) rfl ?_
  refine z_anew (pc2 := 46) (m := 2) C dX10_init_43 cn_X10_25 (by rfl) (by decide) (by decide) (by decide) rfl ?_
  refine w_putR (pc2 := 49) C dX10_init_46 fl_X10_32 (by first | exact hy.k _ | assumption | rfl | ((try simp only [kM, kTo, kSc, nK]); (repeat rw [up1_n _ _ _ (by omega)]); first | assumption | exact up1_s _ _ _)) rfl rfl (by rfl) (by rfl) rfl ?_
  refine w_aload_n (pc2 := 50) C dX10_init_49 rfl rfl ?_
  refine z_new (pc2 := 53) C dX10_init_50 nw_X10_36 (by decide) (by decide) rfl ?_
  refine w_dup (pc2 := 54) C dX10_init_53 rfl rfl ?_
  refine w_aload_n (pc2 := 55) C dX10_init_54 rfl rfl ?_
  refine w_getR (pc2 := 58) C dX10_init_55 fl_X10_28 (by first | exact hy.k _ | assumption | rfl | ((try simp only [kM, kTo, kSc, nK]); (repeat rw [up1_n _ _ _ (by omega)]); first | assumption | exact up1_s _ _ _)) (by first | exact hy.r _ _ | assumption | rfl | (simp [rM, rTo, rSc, nR, up1, up2]; done)) rfl ?_
  refine w_getR (pc2 := 61) C dX10_init_58 fl_X10_38 (by first | exact hy.k _ | assumption | rfl | ((try simp only [kM, kTo, kSc, nK]); (repeat rw [up1_n _ _ _ (by omega)]); first | assumption | exact up1_s _ _ _)) (by first | exact hy.r _ _ | assumption | rfl | (simp [rM, rTo, rSc, nR, up1, up2]; done)) rfl ?_
  -- at 61: .invokespecial 42
  refine w_callI (pc2 := 64) C dX10_init_61 mb_X10_42 mi_X6_init (s_X6_init (b := 24) (up1_s _ _ _) (by omega)) rfl rfl (Nat.le_of_ble_eq_true rfl) ⟨by decide, by decide⟩ ⟨by decide, by decide⟩ rfl ?_
  rintro r2 n2 K2 I2 L2 R2 hD
  obtain ⟨d1, d2, d3, d4, d5, d6⟩ := hD
  replace d2 := d2.symm
  replace d3 := d3.symm
  replace d5 := d5.symm
  replace d6 := d6.symm
  subst d1
  subst d2
  subst d3
  subst d4
  subst d5
  subst d6
  refine w_putR (pc2 := 67) C dX10_init_64 fl_X10_45 (by first | exact hy.k _ | assumption | rfl | ((try simp only [kM, kTo, kSc, nK]); (repeat rw [up1_n _ _ _ (by omega)]); first | assumption | exact up1_s _ _ _)) rfl rfl (by rfl) (by rfl) rfl ?_
  refine w_aload_n (pc2 := 68) C dX10_init_67 rfl rfl ?_
  refine z_new (pc2 := 71) C dX10_init_68 nw_X10_49 (by decide) (by decide) rfl ?_
  refine w_dup (pc2 := 72) C dX10_init_71 rfl rfl ?_
  refine w_aload_n (pc2 := 73) C dX10_init_72 rfl rfl ?_
  refine w_getR (pc2 := 76) C dX10_init_73 fl_X10_28 (by first | exact hy.k _ | assumption | rfl | ((try simp only [kM, kTo, kSc, nK]); (repeat rw [up1_n _ _ _ (by omega)]); first | assumption | exact up1_s _ _ _)) (by first | exact hy.r _ _ | assumption | rfl | (simp [rM, rTo, rSc, nR, up1, up2]; done)) rfl ?_
  refine w_getR (pc2 := 79) C dX10_init_76 fl_X10_38 (by first | exact hy.k _ | assumption | rfl | ((try simp only [kM, kTo, kSc, nK]); (repeat rw [up1_n _ _ _ (by omega)]); first | assumption | exact up1_s _ _ _)) (by first | exact hy.r _ _ | assumption | rfl | (simp [rM, rTo, rSc, nR, up1, up2]; done)) rfl ?_
  -- at 79: .invokespecial 51
  refine w_callI (pc2 := 82) C dX10_init_79 mb_X10_51 mi_X3_init (s_X3_init (b := 28) (up1_s _ _ _) (by omega)) rfl rfl (Nat.le_of_ble_eq_true rfl) ⟨by decide, by decide⟩ ⟨by decide, by decide⟩ rfl ?_
  rintro r2 n2 K2 I2 L2 R2 hD
  obtain ⟨d1, d2, d3, d4, d5, d6⟩ := hD
  replace d2 := d2.symm
  replace d3 := d3.symm
  replace d5 := d5.symm
  replace d6 := d6.symm
  subst d1
  subst d2
  subst d3
  subst d4
  subst d5
  subst d6
  refine w_putR (pc2 := 85) C dX10_init_82 fl_X10_52 (by first | exact hy.k _ | assumption | rfl | ((try simp only [kM, kTo, kSc, nK]); (repeat rw [up1_n _ _ _ (by omega)]); first | assumption | exact up1_s _ _ _)) rfl rfl (by rfl) (by rfl) rfl ?_
  refine w_aload_n (pc2 := 86) C dX10_init_85 rfl rfl ?_
  refine z_new (pc2 := 89) C dX10_init_86 nw_X10_56 (by decide) (by decide) rfl ?_
  refine w_dup (pc2 := 90) C dX10_init_89 rfl rfl ?_
  -- at 90: .invokespecial 58
  refine w_callIN (pc2 := 93) C dX10_init_90 mn_X10_58 mi_X9_init (s_X9_init (b := 32) (up1_s _ _ _) (by omega)) rfl rfl (Nat.le_of_ble_eq_true rfl) ⟨by decide, by decide⟩ ⟨by decide, by decide⟩ rfl ?_
  rintro r2 n2 K2 I2 L2 R2 hD
  obtain ⟨d1, d2, d3, d4, d5, d6⟩ := hD
  replace d2 := d2.symm
  replace d3 := d3.symm
  replace d5 := d5.symm
  replace d6 := d6.symm
  subst d1
  subst d2
  subst d3
  subst d4
  subst d5
  subst d6
  refine w_putR (pc2 := 96) C dX10_init_93 fl_X10_59 (by first | exact hy.k _ | assumption | rfl | ((try simp only [kM, kTo, kSc, nK]); (repeat rw [up1_n _ _ _ (by omega)]); first | assumption | exact up1_s _ _ _)) rfl rfl (by rfl) (by rfl) rfl ?_
  refine w_aload_n (pc2 := 97) C dX10_init_96 rfl rfl ?_
  refine w_iconst (pc2 := 98) (v := iI 0) C dX10_init_97 (by decide) rfl ?_
  refine z_putI (pc2 := 101) C dX10_init_98 fl_X10_63 (by first | exact hy.k _ | assumption | rfl | ((try simp only [kM, kTo, kSc, nK]); (repeat rw [up1_n _ _ _ (by omega)]); first | assumption | exact up1_s _ _ _)) (by rfl) (by rfl) rfl ?_
  -- at 101: .return_
  exact w_ret C dX10_init_101 (by decide) (by decide) (by
    refine ⟨_, _, _, _, ⟨rfl, rfl, rfl, rfl, rfl, rfl⟩, ?_, ?_, ⟨rfl, rfl⟩, rfl, rfl, ⟨rfl, rfl, rfl, rfl⟩, ⟨rfl, rfl⟩, ?_, rfl, ⟨rfl, rfl, rfl⟩, fun _ => rfl⟩
    · intro i hi
      match i, hi with
      | 0, _ => exact hk
      | 1, _ => rfl
      | 2, _ => rfl
      | 3, _ => rfl
      | 4, _ => rfl
      | 5, _ => rfl
      | 6, _ => rfl
      | 7, _ => rfl
      | 8, _ => rfl
      | 9, _ => rfl
      | 10, _ => rfl
      | 11, _ => rfl
      | 12, _ => rfl
      | 13, _ => rfl
      | 14, _ => rfl
      | 15, _ => rfl
      | 16, _ => rfl
      | 17, _ => rfl
      | 18, _ => rfl
      | 19, _ => rfl
      | 20, _ => rfl
      | 21, _ => rfl
      | 22, _ => rfl
      | 23, _ => rfl
      | 24, _ => rfl
      | 25, _ => rfl
      | 26, _ => rfl
      | 27, _ => rfl
      | 28, _ => rfl
      | 29, _ => rfl
      | 30, _ => rfl
      | 31, _ => rfl
      | 32, _ => rfl
      | 33, _ => rfl
      | i + 34, h => exact absurd h (by omega)
    · intro i hi k
      match i, hi, k with
      | 0, _, k => match k with
        | 0 => rfl
        | 1 => rfl
        | 2 => rfl
        | 3 => rfl
        | 4 => rfl
        | 5 => rfl
        | 6 => rfl
        | k + 7 => exact hr _
      | 1, _, k => match k with
        | 0 => rfl
        | 1 => rfl
        | 2 => rfl
        | 3 => rfl
        | 4 => rfl
        | 5 => rfl
        | 6 => rfl
        | 7 => rfl
        | k + 8 => rfl
      | 2, _, k => match k with
        | 0 => rfl
        | 1 => rfl
        | 2 => rfl
        | 3 => rfl
        | 4 => rfl
        | 5 => rfl
        | 6 => rfl
        | 7 => rfl
        | k + 8 => rfl
      | 3, _, k => match k with
        | 0 => rfl
        | 1 => rfl
        | 2 => rfl
        | 3 => rfl
        | 4 => rfl
        | 5 => rfl
        | 6 => rfl
        | 7 => rfl
        | k + 8 => rfl
      | 4, _, k => match k with
        | 0 => rfl
        | 1 => rfl
        | 2 => rfl
        | 3 => rfl
        | 4 => rfl
        | 5 => rfl
        | 6 => rfl
        | 7 => rfl
        | k + 8 => rfl
      | 5, _, k => match k with
        | 0 => rfl
        | 1 => rfl
        | 2 => rfl
        | 3 => rfl
        | 4 => rfl
        | 5 => rfl
        | 6 => rfl
        | 7 => rfl
        | k + 8 => rfl
      | 6, _, k => match k with
        | 0 => rfl
        | 1 => rfl
        | 2 => rfl
        | 3 => rfl
        | 4 => rfl
        | 5 => rfl
        | 6 => rfl
        | 7 => rfl
        | k + 8 => rfl
      | 7, _, k => match k with
        | 0 => rfl
        | 1 => rfl
        | 2 => rfl
        | 3 => rfl
        | 4 => rfl
        | 5 => rfl
        | 6 => rfl
        | 7 => rfl
        | k + 8 => rfl
      | 8, _, k => match k with
        | 0 => rfl
        | 1 => rfl
        | 2 => rfl
        | 3 => rfl
        | 4 => rfl
        | 5 => rfl
        | 6 => rfl
        | 7 => rfl
        | k + 8 => rfl
      | 9, _, k => match k with
        | 0 => rfl
        | 1 => rfl
        | 2 => rfl
        | 3 => rfl
        | 4 => rfl
        | 5 => rfl
        | 6 => rfl
        | 7 => rfl
        | k + 8 => rfl
      | 10, _, k => match k with
        | 0 => rfl
        | 1 => rfl
        | 2 => rfl
        | 3 => rfl
        | 4 => rfl
        | 5 => rfl
        | 6 => rfl
        | 7 => rfl
        | k + 8 => rfl
      | 11, _, k => match k with
        | 0 => rfl
        | 1 => rfl
        | 2 => rfl
        | 3 => rfl
        | 4 => rfl
        | 5 => rfl
        | 6 => rfl
        | 7 => rfl
        | k + 8 => rfl
      | 12, _, k => match k with
        | 0 => rfl
        | 1 => rfl
        | 2 => rfl
        | 3 => rfl
        | 4 => rfl
        | 5 => rfl
        | 6 => rfl
        | 7 => rfl
        | k + 8 => rfl
      | 13, _, k => match k with
        | 0 => rfl
        | 1 => rfl
        | 2 => rfl
        | 3 => rfl
        | 4 => rfl
        | 5 => rfl
        | 6 => rfl
        | 7 => rfl
        | k + 8 => rfl
      | 14, _, k => match k with
        | 0 => rfl
        | 1 => rfl
        | 2 => rfl
        | 3 => rfl
        | 4 => rfl
        | 5 => rfl
        | 6 => rfl
        | 7 => rfl
        | k + 8 => rfl
      | 15, _, k => match k with
        | 0 => rfl
        | 1 => rfl
        | 2 => rfl
        | 3 => rfl
        | 4 => rfl
        | 5 => rfl
        | 6 => rfl
        | 7 => rfl
        | k + 8 => rfl
      | 16, _, k => match k with
        | 0 => rfl
        | 1 => rfl
        | 2 => rfl
        | 3 => rfl
        | 4 => rfl
        | 5 => rfl
        | 6 => rfl
        | 7 => rfl
        | k + 8 => rfl
      | 17, _, k => match k with
        | 0 => rfl
        | 1 => rfl
        | 2 => rfl
        | 3 => rfl
        | 4 => rfl
        | 5 => rfl
        | 6 => rfl
        | 7 => rfl
        | k + 8 => rfl
      | 18, _, k => match k with
        | 0 => rfl
        | 1 => rfl
        | 2 => rfl
        | 3 => rfl
        | 4 => rfl
        | 5 => rfl
        | 6 => rfl
        | 7 => rfl
        | k + 8 => rfl
      | 19, _, k => match k with
        | 0 => rfl
        | 1 => rfl
        | 2 => rfl
        | 3 => rfl
        | 4 => rfl
        | 5 => rfl
        | 6 => rfl
        | 7 => rfl
        | k + 8 => rfl
      | 20, _, k => match k with
        | 0 => rfl
        | 1 => rfl
        | 2 => rfl
        | 3 => rfl
        | 4 => rfl
        | 5 => rfl
        | 6 => rfl
        | 7 => rfl
        | k + 8 => rfl
      | 21, _, k => match k with
        | 0 => rfl
        | 1 => rfl
        | 2 => rfl
        | 3 => rfl
        | 4 => rfl
        | 5 => rfl
        | 6 => rfl
        | 7 => rfl
        | k + 8 => rfl
      | 22, _, k => match k with
        | 0 => rfl
        | 1 => rfl
        | 2 => rfl
        | 3 => rfl
        | 4 => rfl
        | 5 => rfl
        | 6 => rfl
        | 7 => rfl
        | k + 8 => rfl
      | 23, h, _ => exact absurd rfl h.2
      | 24, _, k => match k with
        | 0 => rfl
        | 1 => rfl
        | 2 => rfl
        | 3 => rfl
        | 4 => rfl
        | 5 => rfl
        | 6 => rfl
        | 7 => rfl
        | k + 8 => rfl
      | 25, _, k => match k with
        | 0 => rfl
        | 1 => rfl
        | 2 => rfl
        | 3 => rfl
        | 4 => rfl
        | 5 => rfl
        | 6 => rfl
        | 7 => rfl
        | k + 8 => rfl
      | 26, _, k => match k with
        | 0 => rfl
        | 1 => rfl
        | 2 => rfl
        | 3 => rfl
        | 4 => rfl
        | 5 => rfl
        | 6 => rfl
        | 7 => rfl
        | k + 8 => rfl
      | 27, _, k => match k with
        | 0 => rfl
        | 1 => rfl
        | 2 => rfl
        | 3 => rfl
        | 4 => rfl
        | 5 => rfl
        | 6 => rfl
        | 7 => rfl
        | k + 8 => rfl
      | 28, _, k => match k with
        | 0 => rfl
        | 1 => rfl
        | 2 => rfl
        | 3 => rfl
        | 4 => rfl
        | 5 => rfl
        | 6 => rfl
        | 7 => rfl
        | k + 8 => rfl
      | 29, _, k => match k with
        | 0 => rfl
        | 1 => rfl
        | 2 => rfl
        | 3 => rfl
        | 4 => rfl
        | 5 => rfl
        | 6 => rfl
        | 7 => rfl
        | k + 8 => rfl
      | 30, _, k => match k with
        | 0 => rfl
        | 1 => rfl
        | 2 => rfl
        | 3 => rfl
        | 4 => rfl
        | 5 => rfl
        | 6 => rfl
        | 7 => rfl
        | k + 8 => rfl
      | 31, _, k => match k with
        | 0 => rfl
        | 1 => rfl
        | 2 => rfl
        | 3 => rfl
        | 4 => rfl
        | 5 => rfl
        | 6 => rfl
        | 7 => rfl
        | k + 8 => rfl
      | 32, _, k => match k with
        | 0 => rfl
        | 1 => rfl
        | 2 => rfl
        | 3 => rfl
        | 4 => rfl
        | 5 => rfl
        | 6 => rfl
        | 7 => rfl
        | k + 8 => rfl
      | 33, _, k => match k with
        | 0 => rfl
        | 1 => rfl
        | 2 => rfl
        | 3 => rfl
        | 4 => rfl
        | 5 => rfl
        | 6 => rfl
        | 7 => rfl
        | k + 8 => rfl
      | i + 34, h, _ => exact absurd h.1 (by omega)
    · intro k hk
      exact if_pos hk)
end INITS
