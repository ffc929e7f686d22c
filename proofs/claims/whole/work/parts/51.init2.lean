def kSc (K : wKd) (n : Nat) : wKd := nK (nK K n (100, 100)) (n + 1) (100, 100)
def jSc (J : wJn) (n b : Nat) : wJn := up2 (up2 (nJ (nJ J n) (n + 1)) b 2 0) b 3 0
def lSc (L : wLn) (n : Nat) : wLn := nL1 (nL1 L n) (n + 1)
def rSc (R : wRf) (n b : Nat) : wRf := up2 (nR (up2 (nR R n) b 0 (some n)) (n + 1)) b 1 (some (n + 1))
def kTo (K : wKd) (n : Nat) : wKd := nK (nK K n (100, 24)) (n + 1) (100, 100)
def jTo (J : wJn) (n b : Nat) : wJn := up1 (nJ (up2 (nJ J n) b 1 3142) (n + 1)) n (fun k => if k < 24 then 8 else 0)
def rTo (R : wRf) (n b : Nat) : wRf := up2 (nR (up2 (nR R n) b 0 (some n)) (n + 1)) b 2 (some (n + 1))
def jDr (J : wJn) (n b : Nat) : wJn := up2 (up2 (up2 (nJ (nJ J n) (n + 1)) b 2 0) b 3 64) b 4 (-1)
section INITS
variable {n : Nat} {K : wKd} {J : wJn} {L : wLn} {R : wRf}
theorem s_X8_init {b : Nat} (hk : K b = (8, 0)) (hb : b < n) : S_X8_init [.ref b] n K (zw J) L R (Det none (n + 2) (kTo K n) (zw (jTo J n b)) (lSc L n) (rTo R n b)) := by
  refine Sp_intro [some (.ref b), none] rfl rfl (Nat.le_of_ble_eq_true rfl) rfl ?_
  intro Γ C
  replace C : C_X8_init Γ := C
  have key : ∀ (d i : Nat), i + d = 24 → wp Γ 2 124 (QQ Γ (Det none (n + 2) (kTo K n) (zw (jTo J n b)) (lSc L n) (rTo R n b))) 29 [some (.ref b), some (.int (iI i))] [] (n + 2) (kTo K n) (zw (up1 (nJ (up2 (nJ J n) b 1 3142) (n + 1)) n (fun k => if k < i then 8 else 0))) (lSc L n) (rTo R n b) := by
    have hkb : kTo K n b = (8, 0) := by simp only [kTo, nK]; rw [up1_n _ _ _ (by omega), up1_n _ _ _ (by omega)]; exact hk
    have hkn : kTo K n n = (100, 24) := by simp only [kTo, nK]; rw [up1_n _ _ _ (by omega), up1_s]
    have hrb : rTo R n b b 0 = some n := by simp only [rTo, nR]; rw [up2_n _ _ _ _ (by omega), up1_n _ _ _ (by omega), up2_s]
    intro d
    induction d with
    | zero =>
      intro i hi
      refine w_iload_n (pc2 := 30) C dX8_init_29 rfl rfl ?_
      refine w_bipush (pc2 := 32) (v := iI 24) C dX8_init_30 (by decide) rfl ?_
      -- at 32: .if_icmp .ge 17
      refine z_icmp_ge (pc2 := 35) (tgt := 49) C dX8_init_32 (by decide) rfl (by omega) (by omega) (fun g1 => ?_) (fun g1 => ?_)
      · skip
        exact w_ret C dX8_init_49 (by decide) (by decide) (DetI rfl (by unfold jTo; rw [show i = 24 by omega]))
      · exact absurd hi (by omega)
    | succ d ih =>
      intro i hi
      refine w_iload_n (pc2 := 30) C dX8_init_29 rfl rfl ?_
      refine w_bipush (pc2 := 32) (v := iI 24) C dX8_init_30 (by decide) rfl ?_
      -- at 32: .if_icmp .ge 17
      refine z_icmp_ge (pc2 := 35) (tgt := 49) C dX8_init_32 (by decide) rfl (by omega) (by omega) (fun g1 => ?_) (fun g1 => ?_)
      · exact absurd hi (by omega)
      · skip
        refine w_aload_n (pc2 := 36) C dX8_init_35 rfl rfl ?_
        refine w_getR (pc2 := 39) C dX8_init_36 fl_X8_9 (by first | exact hy.k _ | assumption | ((try simp only [kM, kTo, kSc, nK]); (repeat rw [up1_n _ _ _ (by omega)]); first | assumption | exact up1_s _ _ _)) (by first | exact hy.r _ _ | assumption | (simp [rM, rTo, rSc, nR, up1, up2]; done)) rfl ?_
        refine w_iload_n (pc2 := 40) C dX8_init_39 rfl rfl ?_
        refine w_bipush (pc2 := 42) (v := iI 8) C dX8_init_40 (by decide) rfl ?_
        -- at 42: .iastore
        refine z_iast (pc2 := 43) (j := i) C dX8_init_42 (by first | exact hy.k _ | assumption | ((try simp only [kM, kTo, kSc, nK]); (repeat rw [up1_n _ _ _ (by omega)]); first | assumption | exact up1_s _ _ _)) (by omega) (by omega) (by decide) rfl ?_
        refine w_iinc (pc2 := 46) C dX8_init_43 rfl (iI_add _ _) rfl (by decide) rfl rfl ?_
        try dsimp only [List.set]
        refine w_goto (tgt := 29) C dX8_init_46 (by decide) ?_
        -- at 29: .iload_n 1
        have e : up2 (up1 (nJ (up2 (nJ J n) b 1 3142) (n + 1)) n (fun k => if k < i then 8 else 0)) n i 8 = up1 (nJ (up2 (nJ J n) b 1 3142) (n + 1)) n (fun k => if k < i + 1 then 8 else 0) := by
          funext a k
          simp only [up1, up2]
          by_cases ha : a = n
          · subst ha
            by_cases hk : k = i
            · subst hk; simp
            · simp only [hk, and_false, if_false, if_true]
              have : (k < i) = (k < i + 1) := by apply propext; omega
              simp only [this]
          · simp only [ha, false_and, if_false]
        rw [e]
        exact ih (i + 1) (by omega)
  refine w_aload_n (pc2 := 1) C dX8_init_0 rfl rfl ?_
  refine w_objInit (pc2 := 4) C dX8_init_1 ob_X8_3 jo_i jo_c (by decide) (Nat.le_of_ble_eq_true rfl) rfl ?_
  refine w_aload_n (pc2 := 5) C dX8_init_4 rfl rfl ?_
  refine w_bipush (pc2 := 7) (v := iI 24) C dX8_init_5 (by decide) rfl ?_
  refine z_newarr (pc2 := 9) (t := 100) (m := 24) C dX8_init_7 (by simp) ac_int (by rfl) (by decide) (by decide) (by decide) rfl ?_
  refine w_putR (pc2 := 12) C dX8_init_9 fl_X8_9 (by first | exact hy.k _ | assumption | ((try simp only [kM, kTo, kSc, nK]); (repeat rw [up1_n _ _ _ (by omega)]); first | assumption | exact up1_s _ _ _)) rfl rfl (by rfl) (by rfl) rfl ?_
  refine w_aload_n (pc2 := 13) C dX8_init_12 rfl rfl ?_
  refine w_sipush (pc2 := 16) (v := iI 3142) C dX8_init_13 (by decide) rfl ?_
  refine z_putI (pc2 := 19) C dX8_init_16 fl_X8_15 (by first | exact hy.k _ | assumption | ((try simp only [kM, kTo, kSc, nK]); (repeat rw [up1_n _ _ _ (by omega)]); first | assumption | exact up1_s _ _ _)) (by rfl) (by rfl) rfl ?_
  refine w_aload_n (pc2 := 20) C dX8_init_19 rfl rfl ?_
  refine w_bipush (pc2 := 22) (v := iI 100) C dX8_init_20 (by decide) rfl ?_
  refine z_newarr (pc2 := 24) (t := 100) (m := 100) C dX8_init_22 (by simp) ac_int (by rfl) (by decide) (by decide) (by decide) rfl ?_
  refine w_putR (pc2 := 27) C dX8_init_24 fl_X8_19 (by first | exact hy.k _ | assumption | ((try simp only [kM, kTo, kSc, nK]); (repeat rw [up1_n _ _ _ (by omega)]); first | assumption | exact up1_s _ _ _)) rfl rfl (by rfl) (by rfl) rfl ?_
  refine w_iconst (pc2 := 28) (v := iI 0) C dX8_init_27 (by decide) rfl ?_
  refine w_istore_n (pc2 := 29) C dX8_init_28 rfl (by decide) rfl rfl ?_
  try dsimp only [List.set]
  -- at 29: .iload_n 1
  have e0 : up1 (up2 (up1 J n (fun _ => 0)) b 1 3142) (n + 1) (fun _ => 0) = up1 (nJ (up2 (nJ J n) b 1 3142) (n + 1)) n (fun k => if k < 0 then 8 else 0) := by
    funext a
    by_cases ha : a = n
    · subst ha
      rw [up1_n _ _ _ (show ¬ a = a + 1 by omega), up2_row (by omega), up1_s, up1_s]
      funext k
      simp
    · rw [up1_n _ _ _ ha]
  rw [e0]
  exact key 24 0 (by omega)
theorem s_X3_init {b c : Nat} (hk : K b = (3, 0)) (hb : b < n) : S_X3_init [.ref b, .ref c] n K (zw J) L R (Det none (n + 3) (nK (nK (nK K n (105, 2)) (n + 1) (100, 100)) (n + 2) (100, 100)) (zw (nJ (nJ (nJ J n) (n + 1)) (n + 2))) (nL1 (nL1 (nL1 L n) (n + 1)) (n + 2)) (up2 (up2 (nR (nR (up1 R n (fun j => if j < 2 then some (n + 1 + j) else none)) (n + 1)) (n + 2)) b 1 (some n)) b 0 (some c))) := by
  refine Sp_intro [some (.ref b), some (.ref c)] rfl rfl (Nat.le_of_ble_eq_true rfl) rfl ?_
  intro Γ C
  replace C : C_X3_init Γ := C
  refine w_aload_n (pc2 := 1) C dX3_init_0 rfl rfl ?_
  refine w_objInit (pc2 := 4) C dX3_init_1 ob_X3_3 jo_i jo_c (by decide) (Nat.le_of_ble_eq_true rfl) rfl ?_
  refine w_aload_n (pc2 := 5) C dX3_init_4 rfl rfl ?_
  refine w_iconst (pc2 := 6) (v := iI 2) C dX3_init_5 (by decide) rfl ?_
  refine w_bipush (pc2 := 8) (v := iI 100) C dX3_init_6 (by decide) rfl ?_
  refine z_mnew (pc2 := 12) (m := 100) C dX3_init_8 cn_X3_9 ac_int (by decide) (by decide) (by decide) rfl ?_
  refine w_putR (pc2 := 15) C dX3_init_12 fl_X3_11 (by first | exact hy.k _ | assumption | ((try simp only [kM, kTo, kSc, nK]); (repeat rw [up1_n _ _ _ (by omega)]); first | assumption | exact up1_s _ _ _)) rfl rfl (by rfl) (by rfl) rfl ?_
  refine w_aload_n (pc2 := 16) C dX3_init_15 rfl rfl ?_
  refine w_aload_n (pc2 := 17) C dX3_init_16 rfl rfl ?_
  refine w_putR (pc2 := 20) C dX3_init_17 fl_X3_16 (by first | exact hy.k _ | assumption | ((try simp only [kM, kTo, kSc, nK]); (repeat rw [up1_n _ _ _ (by omega)]); first | assumption | exact up1_s _ _ _)) rfl rfl (by rfl) (by rfl) rfl ?_
  -- at 20: .return_
  exact w_ret C dX3_init_20 (by decide) (by decide) (⟨rfl, rfl, rfl, rfl, rfl, rfl⟩)
def kM (K : wKd) (n : Nat) : wKd := nK (nK (kSc (nK (kTo (nK (kSc (nK K n (5, 0)) (n + 1)) (n + 3) (8, 0)) (n + 4)) (n + 6) (1, 0)) (n + 7)) (n + 9) (0, 0)) (n + 10) (103, 24)
def jM (J : wJn) (n b : Nat) : wJn := up2 (up2 (up2 (up2 (nJ (nJ (jDr (nJ (jTo (nJ (jSc (nJ J n) (n + 1) n) (n + 3)) (n + 4) (n + 3)) (n + 6)) (n + 7) (n + 6)) (n + 9)) (n + 10)) b 4 0) b 5 (-1)) b 6 4) b 7 100
def lM (L : wLn) (n : Nat) : wLn := nL1 (nL1 (lSc (nL1 (lSc (nL1 (lSc (nL1 L n) (n + 1)) (n + 3)) (n + 4)) (n + 6)) (n + 7)) (n + 9)) (n + 10)
def rM (R : wRf) (n b : Nat) : wRf := up2 (up2 (nR (nR (up2 (rSc (nR (up2 (rTo (nR (up2 (rSc (nR R n) (n + 1) n) b 0 (some n)) (n + 3)) (n + 4) (n + 3)) b 1 (some (n + 3))) (n + 6)) (n + 7) (n + 6)) b 2 (some (n + 6))) (n + 9)) (n + 10)) (n + 9) 0 (some (n + 10))) b 3 (some (n + 9))
theorem s_X2_init {b : Nat} (hk : K b = (2, 0)) (hb : b < n) : S_X2_init [.ref b] n K (zw J) L R (Det none (n + 11) (kM K n) (zw (jM J n b)) (lM L n) (rM R n b)) := by
  refine Sp_intro [some (.ref b)] rfl rfl (Nat.le_of_ble_eq_true rfl) rfl ?_
  intro Γ C
  replace C : C_X2_init Γ := C
  refine w_aload_n (pc2 := 1) C dX2_init_0 rfl rfl ?_
  refine w_objInit (pc2 := 4) C dX2_init_1 ob_X2_3 jo_i jo_c (by decide) (Nat.le_of_ble_eq_true rfl) rfl ?_
  refine w_aload_n (pc2 := 5) C dX2_init_4 rfl rfl ?_
  refine z_new (pc2 := 8) C dX2_init_5 nw_X2_9 (by decide) (by decide) rfl ?_
  refine w_dup (pc2 := 9) C dX2_init_8 rfl rfl ?_
  -- at 9: .invokespecial 11
  refine w_callIN (pc2 := 12) C dX2_init_9 mn_X2_11 mi_X5_init (s_X5_init (b := n) (up1_s _ _ _) (by omega)) rfl rfl (Nat.le_of_ble_eq_true rfl) ⟨by decide, by decide⟩ ⟨by decide, by decide⟩ rfl ?_
  rintro r2 n2 K2 I2 L2 R2 hD
  obtain ⟨d1, d2, d3, d4, d5, d6⟩ := hD
  replace d2 := d2.symm
  replace d3 := d3.symm
  replace d5 := d5.symm
  replace d6 := d6.symm
  subst d1
  subst d2
  subst d3
  subst d4
  subst d5
  subst d6
  refine w_putR (pc2 := 15) C dX2_init_12 fl_X2_12 (by first | exact hy.k _ | assumption | ((try simp only [kM, kTo, kSc, nK]); (repeat rw [up1_n _ _ _ (by omega)]); first | assumption | exact up1_s _ _ _)) rfl rfl (by rfl) (by rfl) rfl ?_
  refine w_aload_n (pc2 := 16) C dX2_init_15 rfl rfl ?_
  refine z_new (pc2 := 19) C dX2_init_16 nw_X2_18 (by decide) (by decide) rfl ?_
  refine w_dup (pc2 := 20) C dX2_init_19 rfl rfl ?_
  -- at 20: .invokespecial 20
  refine w_callI (pc2 := 23) C dX2_init_20 mb_X2_20 mi_X8_init (s_X8_init (b := n + 3) (up1_s _ _ _) (by omega)) rfl rfl (Nat.le_of_ble_eq_true rfl) ⟨by decide, by decide⟩ ⟨by decide, by decide⟩ rfl ?_
  rintro r2 n2 K2 I2 L2 R2 hD
  obtain ⟨d1, d2, d3, d4, d5, d6⟩ := hD
  replace d2 := d2.symm
  replace d3 := d3.symm
  replace d5 := d5.symm
  replace d6 := d6.symm
  subst d1
  subst d2
  subst d3
  subst d4
  subst d5
  subst d6
  refine w_putR (pc2 := 26) C dX2_init_23 fl_X2_21 (by first | exact hy.k _ | assumption | ((try simp only [kM, kTo, kSc, nK]); (repeat rw [up1_n _ _ _ (by omega)]); first | assumption | exact up1_s _ _ _)) rfl rfl (by rfl) (by rfl) rfl ?_
  refine w_aload_n (pc2 := 27) C dX2_init_26 rfl rfl ?_
  refine z_new (pc2 := 30) C dX2_init_27 nw_X2_25 (by decide) (by decide) rfl ?_
  refine w_dup (pc2 := 31) C dX2_init_30 rfl rfl ?_
  -- at 31: .invokespecial 27
  refine w_callIN (pc2 := 34) C dX2_init_31 mn_X2_27 mi_X1_init (s_X1_init (b := n + 6) (up1_s _ _ _) (by omega)) rfl rfl (Nat.le_of_ble_eq_true rfl) ⟨by decide, by decide⟩ ⟨by decide, by decide⟩ rfl ?_
  rintro r2 n2 K2 I2 L2 R2 hD
  obtain ⟨d1, d2, d3, d4, d5, d6⟩ := hD
  replace d2 := d2.symm
  replace d3 := d3.symm
  replace d5 := d5.symm
  replace d6 := d6.symm
  subst d1
  subst d2
  subst d3
  subst d4
  subst d5
  subst d6
  refine w_putR (pc2 := 37) C dX2_init_34 fl_X2_28 (by first | exact hy.k _ | assumption | ((try simp only [kM, kTo, kSc, nK]); (repeat rw [up1_n _ _ _ (by omega)]); first | assumption | exact up1_s _ _ _)) rfl rfl (by rfl) (by rfl) rfl ?_
  refine w_aload_n (pc2 := 38) C dX2_init_37 rfl rfl ?_
  refine z_new (pc2 := 41) C dX2_init_38 nw_X2_32 (by decide) (by decide) rfl ?_
  refine w_dup (pc2 := 42) C dX2_init_41 rfl rfl ?_
  -- at 42: .invokespecial 34
  refine w_callIN (pc2 := 45) C dX2_init_42 mn_X2_34 mi_X0_init (s_X0_init (b := n + 9) (up1_s _ _ _) (by omega)) rfl rfl (Nat.le_of_ble_eq_true rfl) ⟨by decide, by decide⟩ ⟨by decide, by decide⟩ rfl ?_
  rintro r2 n2 K2 I2 L2 R2 hD
  obtain ⟨d1, d2, d3, d4, d5, d6⟩ := hD
  replace d2 := d2.symm
  replace d3 := d3.symm
  replace d5 := d5.symm
  replace d6 := d6.symm
  subst d1
  subst d2
  subst d3
  subst d4
  subst d5
  subst d6
  refine w_putR (pc2 := 48) C dX2_init_45 fl_X2_35 (by first | exact hy.k _ | assumption | ((try simp only [kM, kTo, kSc, nK]); (repeat rw [up1_n _ _ _ (by omega)]); first | assumption | exact up1_s _ _ _)) rfl rfl (by rfl) (by rfl) rfl ?_
  refine w_aload_n (pc2 := 49) C dX2_init_48 rfl rfl ?_
  refine w_iconst (pc2 := 50) (v := iI 0) C dX2_init_49 (by decide) rfl ?_
  refine z_putI (pc2 := 53) C dX2_init_50 fl_X2_39 (by first | exact hy.k _ | assumption | ((try simp only [kM, kTo, kSc, nK]); (repeat rw [up1_n _ _ _ (by omega)]); first | assumption | exact up1_s _ _ _)) (by rfl) (by rfl) rfl ?_
  refine w_aload_n (pc2 := 54) C dX2_init_53 rfl rfl ?_
  refine w_iconst (pc2 := 55) (v := iI (-1)) C dX2_init_54 (by decide) rfl ?_
  refine z_putI (pc2 := 58) C dX2_init_55 fl_X2_43 (by first | exact hy.k _ | assumption | ((try simp only [kM, kTo, kSc, nK]); (repeat rw [up1_n _ _ _ (by omega)]); first | assumption | exact up1_s _ _ _)) (by rfl) (by rfl) rfl ?_
  refine w_aload_n (pc2 := 59) C dX2_init_58 rfl rfl ?_
  refine w_iconst (pc2 := 60) (v := iI 4) C dX2_init_59 (by decide) rfl ?_
  refine z_putI (pc2 := 63) C dX2_init_60 fl_X2_46 (by first | exact hy.k _ | assumption | ((try simp only [kM, kTo, kSc, nK]); (repeat rw [up1_n _ _ _ (by omega)]); first | assumption | exact up1_s _ _ _)) (by rfl) (by rfl) rfl ?_
  refine w_aload_n (pc2 := 64) C dX2_init_63 rfl rfl ?_
  refine w_bipush (pc2 := 66) (v := iI 100) C dX2_init_64 (by decide) rfl ?_
  refine z_putI (pc2 := 69) C dX2_init_66 fl_X2_49 (by first | exact hy.k _ | assumption | ((try simp only [kM, kTo, kSc, nK]); (repeat rw [up1_n _ _ _ (by omega)]); first | assumption | exact up1_s _ _ _)) (by rfl) (by rfl) rfl ?_
  -- at 69: .return_
  exact w_ret C dX2_init_69 (by decide) (by decide) (⟨rfl, rfl, rfl, rfl, rfl, rfl⟩)
end INITS
