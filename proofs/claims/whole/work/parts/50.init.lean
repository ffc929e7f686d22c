/-! ===== new things ===== -/
section NEW
variable {Γ : Gm} {own : String} {cc : ByteArray} {nL : Nat} {ret : Option FieldType} {rm : Room} {nm : String} {cells slots pc pc2 : Nat} {Q : State → Prop} {lo : List (Option Value)} {st : List Value} {n : Nat} {K : wKd} {J : wJn} {L : wLn} {R : wRf}
theorem z_new (C : Cx Γ own cc nL ret rm nm) {idx ci N : Nat} (hd : decode cc pc = .ok (.new idx, 3)) (hN : NWk own idx ci N) (hc : cells + 1 ≤ rm.cells) (hs : slots + N ≤ rm.slots) (hp : pc + 3 = pc2) (kk : wp Γ (cells + 1) (slots + N) Q pc2 lo (.ref n :: st) (n + 1) (up1 K n (ci, 0)) (zw (up1 J n (fun _ => 0))) (up1 L n (fun _ => 0)) (up1 R n (fun _ => none))) : wp Γ cells slots Q pc lo st n K (zw J) L R :=
  w_new C hd hN hc hs hp (by rw [zw_0]; exact kk)
theorem z_newarr (C : Cx Γ own cc nL ret rm nm) {aty : ArrayType} {t m : Nat} {x : Int32} (hd : decode cc pc = .ok (.newarray aty, 2)) (ht : (t = 100 ∧ aty = .int) ∨ (t = 101 ∧ aty = .byte) ∨ (t = 102 ∧ aty = .boolean) ∨ (t = 103 ∧ aty = .long)) (hac : Cond.arrayClass (newarray.typeOf aty) ∈ tg) (hx : x = nI m) (hm : m ≤ 2000000) (hc : cells + 1 ≤ rm.cells) (hs : slots + m ≤ rm.slots) (hp : pc + 2 = pc2) (kk : wp Γ (cells + 1) (slots + m) Q pc2 lo (.ref n :: st) (n + 1) (up1 K n (t, m)) (zw (up1 J n (fun _ => 0))) (up1 L n (fun _ => 0)) (up1 R n (fun _ => none))) : wp Γ cells slots Q pc lo (.int x :: st) n K (zw J) L R :=
  w_newarr C hd ht hac hx hm hc hs hp (by rw [zw_0]; exact kk)
theorem z_anew (C : Cx Γ own cc nL ret rm nm) {idx m : Nat} {x : Int32} (hd : decode cc pc = .ok (.anewarray idx, 3)) (hcl : Cond.classLink own idx RX2 ∈ tg) (hx : x = nI m) (hm : m ≤ 2000000) (hc : cells + 1 ≤ rm.cells) (hs : slots + m ≤ rm.slots) (hp : pc + 3 = pc2) (kk : wp Γ (cells + 1) (slots + m) Q pc2 lo (.ref n :: st) (n + 1) (up1 K n (104, m)) (zw (up1 J n (fun _ => 0))) (up1 L n (fun _ => 0)) (up1 R n (fun _ => none))) : wp Γ cells slots Q pc lo (.int x :: st) n K (zw J) L R :=
  w_anew C hd hcl hx hm hc hs hp (by rw [zw_0]; exact kk)
theorem z_mnew (C : Cx Γ own cc nL ret rm nm) {idx m : Nat} (hd : decode cc pc = .ok (.multianewarray idx 2, 4)) (hcl : Cond.classLink own idx "[[I" ∈ tg) (hac : Cond.arrayClass .int ∈ tg) (hm : m ≤ 2000000) (hc : cells + 3 ≤ rm.cells) (hs : slots + (2 + 2 * m) ≤ rm.slots) (hp : pc + 4 = pc2)
    (kk : wp Γ (cells + 3) (slots + (2 + 2 * m)) Q pc2 lo (.ref n :: st) (n + 3) (up1 (up1 (up1 K n (105, 2)) (n + 1) (100, m)) (n + 2) (100, m)) (zw (up1 (up1 (up1 J n (fun _ => 0)) (n + 1) (fun _ => 0)) (n + 2) (fun _ => 0))) (up1 (up1 (up1 L n (fun _ => 0)) (n + 1) (fun _ => 0)) (n + 2) (fun _ => 0)) (up1 (up1 (up1 R n (fun j => if j < 2 then some (n + 1 + j) else none)) (n + 1) (fun _ => none)) (n + 2) (fun _ => none))) : wp Γ cells slots Q pc lo (.int (nI m) :: .int 2 :: st) n K (zw J) L R :=
  w_mnew C hd hcl hac hm hc hs hp (by rw [zw_0, zw_0, zw_0]; exact kk)
end NEW
section INITS
variable {n : Nat} {K : wKd} {J : wJn} {L : wLn} {R : wRf}
/-- a world grown by a cell -/
abbrev nK (K : wKd) (n : Nat) (x : Nat × Nat) : wKd := up1 K n x
abbrev nJ (J : wJn) (n : Nat) : wJn := up1 J n (fun _ => 0)
abbrev nL1 (L : wLn) (n : Nat) : wLn := up1 L n (fun _ => 0)
abbrev nR (R : wRf) (n : Nat) : wRf := up1 R n (fun _ => none)
theorem s_X7_init {b : Nat} (hk : K b = (7, 0)) (hb : b < n) : S_X7_init [.ref b] n K (zw J) L R (Det none (n + 1) (nK K n (101, 1000)) (zw (up2 (nJ J n) b 1 0)) (nL1 L n) (up2 (nR R n) b 0 (some n))) := by
  refine Sp_intro [some (.ref b)] rfl rfl (Nat.le_of_ble_eq_true rfl) rfl ?_
  intro Γ C
  replace C : C_X7_init Γ := C
  refine w_aload_n (pc2 := 1) C dX7_init_0 rfl rfl ?_
  refine w_objInit (pc2 := 4) C dX7_init_1 ob_X7_3 jo_i jo_c (by decide) (Nat.le_of_ble_eq_true rfl) rfl ?_
  refine w_aload_n (pc2 := 5) C dX7_init_4 rfl rfl ?_
  refine w_sipush (pc2 := 8) (v := iI 1000) C dX7_init_5 (by decide) rfl ?_
  refine z_newarr (pc2 := 10) (t := 101) (m := 1000) C dX7_init_8 (by simp) ac_byte (by rfl) (by decide) (by decide) (by decide) rfl ?_
  refine w_putR (pc2 := 13) C dX7_init_10 fl_X7_9 (by first | exact hy.k _ | assumption | ((repeat rw [up1_n _ _ _ (by omega)]); first | assumption | exact up1_s _ _ _)) rfl rfl (by rfl) (by rfl) rfl ?_
  refine w_aload_n (pc2 := 14) C dX7_init_13 rfl rfl ?_
  refine w_iconst (pc2 := 15) (v := iI 0) C dX7_init_14 (by decide) rfl ?_
  refine z_putI (pc2 := 18) C dX7_init_15 fl_X7_15 (by first | exact hy.k _ | assumption | ((repeat rw [up1_n _ _ _ (by omega)]); first | assumption | exact up1_s _ _ _)) (by rfl) (by rfl) rfl ?_
  -- at 18: .return_
  exact w_ret C dX7_init_18 (by decide) (by decide) (⟨rfl, rfl, rfl, rfl, rfl, rfl⟩)
theorem s_X5_init {b : Nat} (hk : K b = (5, 0)) (hb : b < n) : S_X5_init [.ref b] n K (zw J) L R (Det none (n + 2) (nK (nK K n (100, 100)) (n + 1) (100, 100)) (zw (up2 (up2 (nJ (nJ J n) (n + 1)) b 2 0) b 3 0)) (nL1 (nL1 L n) (n + 1)) (up2 (nR (up2 (nR R n) b 0 (some n)) (n + 1)) b 1 (some (n + 1)))) := by
  refine Sp_intro [some (.ref b)] rfl rfl (Nat.le_of_ble_eq_true rfl) rfl ?_
  intro Γ C
  replace C : C_X5_init Γ := C
  refine w_aload_n (pc2 := 1) C dX5_init_0 rfl rfl ?_
  refine w_objInit (pc2 := 4) C dX5_init_1 ob_X5_3 jo_i jo_c (by decide) (Nat.le_of_ble_eq_true rfl) rfl ?_
  refine w_aload_n (pc2 := 5) C dX5_init_4 rfl rfl ?_
  refine w_bipush (pc2 := 7) (v := iI 100) C dX5_init_5 (by decide) rfl ?_
  refine z_newarr (pc2 := 9) (t := 100) (m := 100) C dX5_init_7 (by simp) ac_int (by rfl) (by decide) (by decide) (by decide) rfl ?_
  refine w_putR (pc2 := 12) C dX5_init_9 fl_X5_9 (by first | exact hy.k _ | assumption | ((repeat rw [up1_n _ _ _ (by omega)]); first | assumption | exact up1_s _ _ _)) rfl rfl (by rfl) (by rfl) rfl ?_
  refine w_aload_n (pc2 := 13) C dX5_init_12 rfl rfl ?_
  refine w_bipush (pc2 := 15) (v := iI 100) C dX5_init_13 (by decide) rfl ?_
  refine z_newarr (pc2 := 17) (t := 100) (m := 100) C dX5_init_15 (by simp) ac_int (by rfl) (by decide) (by decide) (by decide) rfl ?_
  refine w_putR (pc2 := 20) C dX5_init_17 fl_X5_15 (by first | exact hy.k _ | assumption | ((repeat rw [up1_n _ _ _ (by omega)]); first | assumption | exact up1_s _ _ _)) rfl rfl (by rfl) (by rfl) rfl ?_
  refine w_aload_n (pc2 := 21) C dX5_init_20 rfl rfl ?_
  refine w_iconst (pc2 := 22) (v := iI 0) C dX5_init_21 (by decide) rfl ?_
  refine z_putI (pc2 := 25) C dX5_init_22 fl_X5_18 (by first | exact hy.k _ | assumption | ((repeat rw [up1_n _ _ _ (by omega)]); first | assumption | exact up1_s _ _ _)) (by rfl) (by rfl) rfl ?_
  refine w_aload_n (pc2 := 26) C dX5_init_25 rfl rfl ?_
  refine w_iconst (pc2 := 27) (v := iI 0) C dX5_init_26 (by decide) rfl ?_
  refine z_putI (pc2 := 30) C dX5_init_27 fl_X5_22 (by first | exact hy.k _ | assumption | ((repeat rw [up1_n _ _ _ (by omega)]); first | assumption | exact up1_s _ _ _)) (by rfl) (by rfl) rfl ?_
  -- at 30: .return_
  exact w_ret C dX5_init_30 (by decide) (by decide) (⟨rfl, rfl, rfl, rfl, rfl, rfl⟩)
theorem s_X1_init {b : Nat} (hk : K b = (1, 0)) (hb : b < n) : S_X1_init [.ref b] n K (zw J) L R (Det none (n + 2) (nK (nK K n (100, 100)) (n + 1) (100, 100)) (zw (up2 (up2 (up2 (nJ (nJ J n) (n + 1)) b 2 0) b 3 64) b 4 (-1))) (nL1 (nL1 L n) (n + 1)) (up2 (nR (up2 (nR R n) b 0 (some n)) (n + 1)) b 1 (some (n + 1)))) := by
  refine Sp_intro [some (.ref b)] rfl rfl (Nat.le_of_ble_eq_true rfl) rfl ?_
  intro Γ C
  replace C : C_X1_init Γ := C
  refine w_aload_n (pc2 := 1) C dX1_init_0 rfl rfl ?_
  refine w_objInit (pc2 := 4) C dX1_init_1 ob_X1_3 jo_i jo_c (by decide) (Nat.le_of_ble_eq_true rfl) rfl ?_
  refine w_aload_n (pc2 := 5) C dX1_init_4 rfl rfl ?_
  refine w_bipush (pc2 := 7) (v := iI 100) C dX1_init_5 (by decide) rfl ?_
  refine z_newarr (pc2 := 9) (t := 100) (m := 100) C dX1_init_7 (by simp) ac_int (by rfl) (by decide) (by decide) (by decide) rfl ?_
  refine w_putR (pc2 := 12) C dX1_init_9 fl_X1_9 (by first | exact hy.k _ | assumption | ((repeat rw [up1_n _ _ _ (by omega)]); first | assumption | exact up1_s _ _ _)) rfl rfl (by rfl) (by rfl) rfl ?_
  refine w_aload_n (pc2 := 13) C dX1_init_12 rfl rfl ?_
  refine w_bipush (pc2 := 15) (v := iI 100) C dX1_init_13 (by decide) rfl ?_
  refine z_newarr (pc2 := 17) (t := 100) (m := 100) C dX1_init_15 (by simp) ac_int (by rfl) (by decide) (by decide) (by decide) rfl ?_
  refine w_putR (pc2 := 20) C dX1_init_17 fl_X1_15 (by first | exact hy.k _ | assumption | ((repeat rw [up1_n _ _ _ (by omega)]); first | assumption | exact up1_s _ _ _)) rfl rfl (by rfl) (by rfl) rfl ?_
  refine w_aload_n (pc2 := 21) C dX1_init_20 rfl rfl ?_
  refine w_iconst (pc2 := 22) (v := iI 0) C dX1_init_21 (by decide) rfl ?_
  refine z_putI (pc2 := 25) C dX1_init_22 fl_X1_18 (by first | exact hy.k _ | assumption | ((repeat rw [up1_n _ _ _ (by omega)]); first | assumption | exact up1_s _ _ _)) (by rfl) (by rfl) rfl ?_
  refine w_aload_n (pc2 := 26) C dX1_init_25 rfl rfl ?_
  refine w_bipush (pc2 := 28) (v := iI 64) C dX1_init_26 (by decide) rfl ?_
  refine z_putI (pc2 := 31) C dX1_init_28 fl_X1_22 (by first | exact hy.k _ | assumption | ((repeat rw [up1_n _ _ _ (by omega)]); first | assumption | exact up1_s _ _ _)) (by rfl) (by rfl) rfl ?_
  refine w_aload_n (pc2 := 32) C dX1_init_31 rfl rfl ?_
  refine w_iconst (pc2 := 33) (v := iI (-1)) C dX1_init_32 (by decide) rfl ?_
  refine z_putI (pc2 := 36) C dX1_init_33 fl_X1_25 (by first | exact hy.k _ | assumption | ((repeat rw [up1_n _ _ _ (by omega)]); first | assumption | exact up1_s _ _ _)) (by rfl) (by rfl) rfl ?_
  -- at 36: .return_
  exact w_ret C dX1_init_36 (by decide) (by decide) (⟨rfl, rfl, rfl, rfl, rfl, rfl⟩)
theorem s_X0_init {b : Nat} (hk : K b = (0, 0)) (hb : b < n) : S_X0_init [.ref b] n K (zw J) L R (Det none (n + 1) (nK K n (103, 24)) (zw (nJ J n)) (nL1 L n) (up2 (nR R n) b 0 (some n))) := by
  refine Sp_intro [some (.ref b)] rfl rfl (Nat.le_of_ble_eq_true rfl) rfl ?_
  intro Γ C
  replace C : C_X0_init Γ := C
  refine w_aload_n (pc2 := 1) C dX0_init_0 rfl rfl ?_
  refine w_objInit (pc2 := 4) C dX0_init_1 ob_X0_3 jo_i jo_c (by decide) (Nat.le_of_ble_eq_true rfl) rfl ?_
  refine w_aload_n (pc2 := 5) C dX0_init_4 rfl rfl ?_
  refine w_bipush (pc2 := 7) (v := iI 24) C dX0_init_5 (by decide) rfl ?_
  refine z_newarr (pc2 := 9) (t := 103) (m := 24) C dX0_init_7 (by simp) ac_long (by rfl) (by decide) (by decide) (by decide) rfl ?_
  refine w_putR (pc2 := 12) C dX0_init_9 fl_X0_9 (by first | exact hy.k _ | assumption | ((repeat rw [up1_n _ _ _ (by omega)]); first | assumption | exact up1_s _ _ _)) rfl rfl (by rfl) (by rfl) rfl ?_
  -- at 12: .return_
  exact w_ret C dX0_init_12 (by decide) (by decide) (⟨rfl, rfl, rfl, rfl, rfl, rfl⟩)
theorem s_X9_init {b : Nat} (hk : K b = (9, 0)) (hb : b < n) : S_X9_init [.ref b] n K (zw J) L R (Det none (n + 1) (nK K n (100, 2063)) (zw (nJ J n)) (nL1 L n) (up2 (nR R n) b 2 (some n))) := by
  refine Sp_intro [some (.ref b)] rfl rfl (Nat.le_of_ble_eq_true rfl) rfl ?_
  intro Γ C
  replace C : C_X9_init Γ := C
  refine w_aload_n (pc2 := 1) C dX9_init_0 rfl rfl ?_
  refine w_objInit (pc2 := 4) C dX9_init_1 ob_X9_3 jo_i jo_c (by decide) (Nat.le_of_ble_eq_true rfl) rfl ?_
  refine w_aload_n (pc2 := 5) C dX9_init_4 rfl rfl ?_
  refine w_sipush (pc2 := 8) (v := iI 2063) C dX9_init_5 (by decide) rfl ?_
  refine z_newarr (pc2 := 10) (t := 100) (m := 2063) C dX9_init_8 (by simp) ac_int (by rfl) (by decide) (by decide) (by decide) rfl ?_
  refine w_putR (pc2 := 13) C dX9_init_10 fl_X9_9 (by first | exact hy.k _ | assumption | ((repeat rw [up1_n _ _ _ (by omega)]); first | assumption | exact up1_s _ _ _)) rfl rfl (by rfl) (by rfl) rfl ?_
  -- at 13: .return_
  exact w_ret C dX9_init_13 (by decide) (by decide) (⟨rfl, rfl, rfl, rfl, rfl, rfl⟩)
theorem s_X6_init {b c : Nat} (hk : K b = (6, 0)) (hb : b < n) : S_X6_init [.ref b, .ref c] n K (zw J) L R (Det none (n + 3) (nK (nK (nK K n (100, 100)) (n + 1) (100, 2)) (n + 2) (100, 10201)) (zw (nJ (nJ (nJ J n) (n + 1)) (n + 2))) (nL1 (nL1 (nL1 L n) (n + 1)) (n + 2)) (up2 (up2 (nR (up2 (nR (up2 (nR R n) b 0 (some n)) (n + 1)) b 1 (some (n + 1))) (n + 2)) b 5 (some (n + 2))) b 4 (some c))) := by
  refine Sp_intro [some (.ref b), some (.ref c)] rfl rfl (Nat.le_of_ble_eq_true rfl) rfl ?_
  intro Γ C
  replace C : C_X6_init Γ := C
  refine w_aload_n (pc2 := 1) C dX6_init_0 rfl rfl ?_
  refine w_objInit (pc2 := 4) C dX6_init_1 ob_X6_3 jo_i jo_c (by decide) (Nat.le_of_ble_eq_true rfl) rfl ?_
  refine w_aload_n (pc2 := 5) C dX6_init_4 rfl rfl ?_
  refine w_bipush (pc2 := 7) (v := iI 100) C dX6_init_5 (by decide) rfl ?_
  refine z_newarr (pc2 := 9) (t := 100) (m := 100) C dX6_init_7 (by simp) ac_int (by rfl) (by decide) (by decide) (by decide) rfl ?_
  refine w_putR (pc2 := 12) C dX6_init_9 fl_X6_9 (by first | exact hy.k _ | assumption | ((repeat rw [up1_n _ _ _ (by omega)]); first | assumption | exact up1_s _ _ _)) rfl rfl (by rfl) (by rfl) rfl ?_
  refine w_aload_n (pc2 := 13) C dX6_init_12 rfl rfl ?_
  refine w_iconst (pc2 := 14) (v := iI 2) C dX6_init_13 (by decide) rfl ?_
  refine z_newarr (pc2 := 16) (t := 100) (m := 2) C dX6_init_14 (by simp) ac_int (by rfl) (by decide) (by decide) (by decide) rfl ?_
  refine w_putR (pc2 := 19) C dX6_init_16 fl_X6_15 (by first | exact hy.k _ | assumption | ((repeat rw [up1_n _ _ _ (by omega)]); first | assumption | exact up1_s _ _ _)) rfl rfl (by rfl) (by rfl) rfl ?_
  refine w_aload_n (pc2 := 20) C dX6_init_19 rfl rfl ?_
  refine w_sipush (pc2 := 23) (v := iI 10201) C dX6_init_20 (by decide) rfl ?_
  refine z_newarr (pc2 := 25) (t := 100) (m := 10201) C dX6_init_23 (by simp) ac_int (by rfl) (by decide) (by decide) (by decide) rfl ?_
  refine w_putR (pc2 := 28) C dX6_init_25 fl_X6_18 (by first | exact hy.k _ | assumption | ((repeat rw [up1_n _ _ _ (by omega)]); first | assumption | exact up1_s _ _ _)) rfl rfl (by rfl) (by rfl) rfl ?_
  refine w_aload_n (pc2 := 29) C dX6_init_28 rfl rfl ?_
  refine w_aload_n (pc2 := 30) C dX6_init_29 rfl rfl ?_
  refine w_putR (pc2 := 33) C dX6_init_30 fl_X6_21 (by first | exact hy.k _ | assumption | ((repeat rw [up1_n _ _ _ (by omega)]); first | assumption | exact up1_s _ _ _)) rfl rfl (by rfl) (by rfl) rfl ?_
  -- at 33: .return_
  exact w_ret C dX6_init_33 (by decide) (by decide) (⟨rfl, rfl, rfl, rfl, rfl, rfl⟩)
end INITS
