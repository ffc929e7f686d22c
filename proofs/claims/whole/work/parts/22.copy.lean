/-! ===== copies ===== -/
def cpyJ (J : wJn) (i j c : Nat) : wJn := up1 J j (fun q => if q < c then J i q else J j q)
def cpyL (L : wLn) (i j c : Nat) : wLn := up1 L j (fun q => if q < c then L i q else L j q)
theorem zw_cpy (J : wJn) (i j c : Nat) : up1 (zw J) j (fun q => if q < c then zw J i q else zw J j q) = zw (cpyJ J i j c) := by
  unfold cpyJ
  rw [← zw_row]
  congr 1
  funext q
  by_cases h : q < c
  · simp only [if_pos h]; rfl
  · simp only [if_neg h]; rfl
section ZC
variable {Γ : Gm} {own : String} {cc : ByteArray} {nL : Nat} {ret : Option FieldType} {rm : Room} {nm : String} {cells slots pc pc2 : Nat} {Q : State → Prop} {lo : List (Option Value)} {st : List Value} {n : Nat} {K : wKd} {I : wIn} {J : wJn} {L : wLn} {R : wRf}
theorem z_copyI (C : Cx Γ own cc nL ret rm nm) {idx i j m1 m2 c : Nat} {x : Int} (hd : decode cc pc = .ok (.invokestatic idx, 3)) (hl1 : Cond.methodLink own idx arraycopyName ∈ tg) (hl2 : Cond.native arraycopyName ∈ tg) (hl3 : Cond.static arraycopyName ∈ tg) (hl4 : Cond.initialized "java/lang/System" ∈ tg) (hk1 : K i = (100, m1)) (hk2 : K j = (100, m2)) (hx : x = c) (hc1 : c ≤ m1) (hc2 : c ≤ m2) (hm : c < 2 ^ 31) (hfr : 1 ≤ rm.frames) (hlo : (st.map fun v => v.category).sum + 18 ≤ rm.locals) (hp : pc + 3 = pc2)
    (kk : wp Γ cells slots Q pc2 lo st n K (zw (cpyJ J i j c)) L R) : wp Γ cells slots Q pc lo (.int (iI x) :: .int (iI 0) :: .ref j :: .int (iI 0) :: .ref i :: st) n K (zw J) L R :=
  w_copyI C hd hl1 hl2 hl3 hl4 hk1 hk2 (iI_n hx) hc1 hc2 hm hfr hlo hp (by rw [zw_cpy]; exact kk)
theorem z_copyL (C : Cx Γ own cc nL ret rm nm) {idx i j m1 m2 c : Nat} {x : Int} (hd : decode cc pc = .ok (.invokestatic idx, 3)) (hl1 : Cond.methodLink own idx arraycopyName ∈ tg) (hl2 : Cond.native arraycopyName ∈ tg) (hl3 : Cond.static arraycopyName ∈ tg) (hl4 : Cond.initialized "java/lang/System" ∈ tg) (hk1 : K i = (103, m1)) (hk2 : K j = (103, m2)) (hx : x = c) (hc1 : c ≤ m1) (hc2 : c ≤ m2) (hm : c < 2 ^ 31) (hfr : 1 ≤ rm.frames) (hlo : (st.map fun v => v.category).sum + 18 ≤ rm.locals) (hp : pc + 3 = pc2)
    (kk : wp Γ cells slots Q pc2 lo st n K I (cpyL L i j c) R) : wp Γ cells slots Q pc lo (.int (iI x) :: .int (iI 0) :: .ref j :: .int (iI 0) :: .ref i :: st) n K I L R :=
  w_copyL C hd hl1 hl2 hl3 hl4 hk1 hk2 (iI_n hx) hc1 hc2 hm hfr hlo hp kk
end ZC
/-- a Matter at b: its cells one behind the other -/
def LySc (K : wKd) (R : wRf) (b : Nat) : Prop := K b = (5, 0) ∧ R b 0 = some (b + 1) ∧ R b 1 = some (b + 2) ∧ K (b + 1) = (100, 100) ∧ K (b + 2) = (100, 100)
def LyTo (K : wKd) (R : wRf) (b : Nat) : Prop := K b = (8, 0) ∧ R b 0 = some (b + 1) ∧ R b 2 = some (b + 2) ∧ K (b + 1) = (100, 24) ∧ K (b + 2) = (100, 100)
def LyDr (K : wKd) (R : wRf) (b : Nat) : Prop := K b = (1, 0) ∧ R b 0 = some (b + 1) ∧ R b 1 = some (b + 2) ∧ K (b + 1) = (100, 100) ∧ K (b + 2) = (100, 100)
def LyCl (K : wKd) (R : wRf) (b : Nat) : Prop := K b = (0, 0) ∧ R b 0 = some (b + 1) ∧ K (b + 1) = (103, 24)
def LyM (K : wKd) (R : wRf) (b : Nat) : Prop := K b = (2, 0) ∧ R b 0 = some (b + 1) ∧ R b 1 = some (b + 4) ∧ R b 2 = some (b + 7) ∧ R b 3 = some (b + 10) ∧ LySc K R (b + 1) ∧ LyTo K R (b + 4) ∧ LyDr K R (b + 7) ∧ LyCl K R (b + 10)
theorem Ly.m {K : wKd} {R : wRf} (hy : Ly K R) : LyM K R 11 := ⟨hy.k 11, hy.r 11 0, hy.r 11 1, hy.r 11 2, hy.r 11 3, ⟨hy.k 12, hy.r 12 0, hy.r 12 1, hy.k 13, hy.k 14⟩, ⟨hy.k 15, hy.r 15 0, hy.r 15 2, hy.k 16, hy.k 17⟩, ⟨hy.k 18, hy.r 18 0, hy.r 18 1, hy.k 19, hy.k 20⟩, ⟨hy.k 21, hy.r 21 0, hy.k 22⟩⟩
theorem Ly.d {K : wKd} {R : wRf} (hy : Ly K R) : LySc K R 4 := ⟨hy.k 4, hy.r 4 0, hy.r 4 1, hy.k 5, hy.k 6⟩
/-- copies of a Score, of Tones, of a Drum, of Clappers: from b to a -/
def cpSc (J : wJn) (a b : Nat) : wJn :=
  let J1 := cpyJ J (b + 1) (a + 1) 100
  let J2 := cpyJ J1 (b + 2) (a + 2) 100
  let J3 := up2 J2 a 2 (J2 b 2)
  up2 J3 a 3 (J3 b 3)
def cpTo (J : wJn) (a b : Nat) : wJn :=
  let J1 := cpyJ J (b + 1) (a + 1) 24
  up2 J1 a 1 (J1 b 1)
def cpDr (J : wJn) (a b : Nat) : wJn :=
  let J1 := cpyJ J (b + 1) (a + 1) 100
  let J2 := cpyJ J1 (b + 2) (a + 2) 100
  let J3 := up2 J2 a 2 (J2 b 2)
  let J4 := up2 J3 a 3 (J3 b 3)
  up2 J4 a 4 (J4 b 4)
def cpMa (J : wJn) (a b : Nat) : wJn :=
  let J1 := cpDr (cpTo (cpSc J (a + 1) (b + 1)) (a + 4) (b + 4)) (a + 7) (b + 7)
  let J2 := up2 J1 a 4 (J1 b 4)
  let J3 := up2 J2 a 5 (J2 b 5)
  let J4 := up2 J3 a 6 (J3 b 6)
  up2 J4 a 7 (J4 b 7)
section COPY
variable {n : Nat} {K : wKd} {J : wJn} {L : wLn} {R : wRf}
theorem s_X5_copyFrom {a b : Nat} (ha : LySc K R a) (hb : LySc K R b) : S_X5_copyFrom [.ref a, .ref b] n K (zw J) L R (Det none n K (zw (cpSc J a b)) L R) := by
  obtain ⟨ha1, ha2, ha3, ha4, ha5⟩ := ha
  obtain ⟨hb1, hb2, hb3, hb4, hb5⟩ := hb
  refine Sp_intro [some (.ref a), some (.ref b)] rfl rfl (Nat.le_of_ble_eq_true rfl) rfl ?_
  intro Γ C
  replace C : C_X5_copyFrom Γ := C
  refine w_aload_n (pc2 := 1) C dX5_copyFrom_0 rfl rfl ?_
  refine w_getR (pc2 := 4) C dX5_copyFrom_1 fl_X5_9 (by first | exact hy.k _ | assumption) (by first | exact hy.r _ _ | assumption) rfl ?_
  refine w_iconst (pc2 := 5) (v := iI 0) C dX5_copyFrom_4 (by decide) rfl ?_
  refine w_aload_n (pc2 := 6) C dX5_copyFrom_5 rfl rfl ?_
  refine w_getR (pc2 := 9) C dX5_copyFrom_6 fl_X5_9 (by first | exact hy.k _ | assumption) (by first | exact hy.r _ _ | assumption) rfl ?_
  refine w_iconst (pc2 := 10) (v := iI 0) C dX5_copyFrom_9 (by decide) rfl ?_
  refine w_bipush (pc2 := 12) (v := iI 100) C dX5_copyFrom_10 (by decide) rfl ?_
  -- at 12: .invokestatic 31
  refine z_copyI (pc2 := 15) (c := 100) C dX5_copyFrom_12 cp_X5_31 js_nat js_st js_ini (by first | exact hy.k _ | assumption) (by first | exact hy.k _ | assumption) (by rfl) (by decide) (by decide) (by decide) (by decide) (Nat.le_of_ble_eq_true rfl) rfl ?_
  refine w_aload_n (pc2 := 16) C dX5_copyFrom_15 rfl rfl ?_
  refine w_getR (pc2 := 19) C dX5_copyFrom_16 fl_X5_15 (by first | exact hy.k _ | assumption) (by first | exact hy.r _ _ | assumption) rfl ?_
  refine w_iconst (pc2 := 20) (v := iI 0) C dX5_copyFrom_19 (by decide) rfl ?_
  refine w_aload_n (pc2 := 21) C dX5_copyFrom_20 rfl rfl ?_
  refine w_getR (pc2 := 24) C dX5_copyFrom_21 fl_X5_15 (by first | exact hy.k _ | assumption) (by first | exact hy.r _ _ | assumption) rfl ?_
  refine w_iconst (pc2 := 25) (v := iI 0) C dX5_copyFrom_24 (by decide) rfl ?_
  refine w_bipush (pc2 := 27) (v := iI 100) C dX5_copyFrom_25 (by decide) rfl ?_
  -- at 27: .invokestatic 31
  refine z_copyI (pc2 := 30) (c := 100) C dX5_copyFrom_27 cp_X5_31 js_nat js_st js_ini (by first | exact hy.k _ | assumption) (by first | exact hy.k _ | assumption) (by rfl) (by decide) (by decide) (by decide) (by decide) (Nat.le_of_ble_eq_true rfl) rfl ?_
  refine w_aload_n (pc2 := 31) C dX5_copyFrom_30 rfl rfl ?_
  refine w_aload_n (pc2 := 32) C dX5_copyFrom_31 rfl rfl ?_
  refine z_getI (pc2 := 35) C dX5_copyFrom_32 fl_X5_18 (by first | exact hy.k _ | assumption) rfl ?_
  refine z_putI (pc2 := 38) C dX5_copyFrom_35 fl_X5_18 (by first | exact hy.k _ | assumption) (by rfl) (by rfl) rfl ?_
  refine w_aload_n (pc2 := 39) C dX5_copyFrom_38 rfl rfl ?_
  refine w_aload_n (pc2 := 40) C dX5_copyFrom_39 rfl rfl ?_
  refine z_getI (pc2 := 43) C dX5_copyFrom_40 fl_X5_22 (by first | exact hy.k _ | assumption) rfl ?_
  refine z_putI (pc2 := 46) C dX5_copyFrom_43 fl_X5_22 (by first | exact hy.k _ | assumption) (by rfl) (by rfl) rfl ?_
  -- at 46: .return_
  exact w_ret C dX5_copyFrom_46 (by decide) (by decide) (⟨rfl, rfl, rfl, rfl, rfl, rfl⟩)
theorem s_X8_copyFrom {a b : Nat} (ha : LyTo K R a) (hb : LyTo K R b) : S_X8_copyFrom [.ref a, .ref b] n K (zw J) L R (Det none n K (zw (cpTo J a b)) L R) := by
  obtain ⟨ha1, ha2, ha3, ha4, ha5⟩ := ha
  obtain ⟨hb1, hb2, hb3, hb4, hb5⟩ := hb
  refine Sp_intro [some (.ref a), some (.ref b)] rfl rfl (Nat.le_of_ble_eq_true rfl) rfl ?_
  intro Γ C
  replace C : C_X8_copyFrom Γ := C
  refine w_aload_n (pc2 := 1) C dX8_copyFrom_0 rfl rfl ?_
  refine w_getR (pc2 := 4) C dX8_copyFrom_1 fl_X8_9 (by first | exact hy.k _ | assumption) (by first | exact hy.r _ _ | assumption) rfl ?_
  refine w_iconst (pc2 := 5) (v := iI 0) C dX8_copyFrom_4 (by decide) rfl ?_
  refine w_aload_n (pc2 := 6) C dX8_copyFrom_5 rfl rfl ?_
  refine w_getR (pc2 := 9) C dX8_copyFrom_6 fl_X8_9 (by first | exact hy.k _ | assumption) (by first | exact hy.r _ _ | assumption) rfl ?_
  refine w_iconst (pc2 := 10) (v := iI 0) C dX8_copyFrom_9 (by decide) rfl ?_
  refine w_bipush (pc2 := 12) (v := iI 24) C dX8_copyFrom_10 (by decide) rfl ?_
  -- at 12: .invokestatic 57
  refine z_copyI (pc2 := 15) (c := 24) C dX8_copyFrom_12 cp_X8_57 js_nat js_st js_ini (by first | exact hy.k _ | assumption) (by first | exact hy.k _ | assumption) (by rfl) (by decide) (by decide) (by decide) (by decide) (Nat.le_of_ble_eq_true rfl) rfl ?_
  refine w_aload_n (pc2 := 16) C dX8_copyFrom_15 rfl rfl ?_
  refine w_aload_n (pc2 := 17) C dX8_copyFrom_16 rfl rfl ?_
  refine z_getI (pc2 := 20) C dX8_copyFrom_17 fl_X8_15 (by first | exact hy.k _ | assumption) rfl ?_
  refine z_putI (pc2 := 23) C dX8_copyFrom_20 fl_X8_15 (by first | exact hy.k _ | assumption) (by rfl) (by rfl) rfl ?_
  -- at 23: .return_
  exact w_ret C dX8_copyFrom_23 (by decide) (by decide) (⟨rfl, rfl, rfl, rfl, rfl, rfl⟩)
theorem s_X1_copyFrom {a b : Nat} (ha : LyDr K R a) (hb : LyDr K R b) : S_X1_copyFrom [.ref a, .ref b] n K (zw J) L R (Det none n K (zw (cpDr J a b)) L R) := by
  obtain ⟨ha1, ha2, ha3, ha4, ha5⟩ := ha
  obtain ⟨hb1, hb2, hb3, hb4, hb5⟩ := hb
  refine Sp_intro [some (.ref a), some (.ref b)] rfl rfl (Nat.le_of_ble_eq_true rfl) rfl ?_
  intro Γ C
  replace C : C_X1_copyFrom Γ := C
  refine w_aload_n (pc2 := 1) C dX1_copyFrom_0 rfl rfl ?_
  refine w_getR (pc2 := 4) C dX1_copyFrom_1 fl_X1_9 (by first | exact hy.k _ | assumption) (by first | exact hy.r _ _ | assumption) rfl ?_
  refine w_iconst (pc2 := 5) (v := iI 0) C dX1_copyFrom_4 (by decide) rfl ?_
  refine w_aload_n (pc2 := 6) C dX1_copyFrom_5 rfl rfl ?_
  refine w_getR (pc2 := 9) C dX1_copyFrom_6 fl_X1_9 (by first | exact hy.k _ | assumption) (by first | exact hy.r _ _ | assumption) rfl ?_
  refine w_iconst (pc2 := 10) (v := iI 0) C dX1_copyFrom_9 (by decide) rfl ?_
  refine w_bipush (pc2 := 12) (v := iI 100) C dX1_copyFrom_10 (by decide) rfl ?_
  -- at 12: .invokestatic 37
  refine z_copyI (pc2 := 15) (c := 100) C dX1_copyFrom_12 cp_X1_37 js_nat js_st js_ini (by first | exact hy.k _ | assumption) (by first | exact hy.k _ | assumption) (by rfl) (by decide) (by decide) (by decide) (by decide) (Nat.le_of_ble_eq_true rfl) rfl ?_
  refine w_aload_n (pc2 := 16) C dX1_copyFrom_15 rfl rfl ?_
  refine w_getR (pc2 := 19) C dX1_copyFrom_16 fl_X1_15 (by first | exact hy.k _ | assumption) (by first | exact hy.r _ _ | assumption) rfl ?_
  refine w_iconst (pc2 := 20) (v := iI 0) C dX1_copyFrom_19 (by decide) rfl ?_
  refine w_aload_n (pc2 := 21) C dX1_copyFrom_20 rfl rfl ?_
  refine w_getR (pc2 := 24) C dX1_copyFrom_21 fl_X1_15 (by first | exact hy.k _ | assumption) (by first | exact hy.r _ _ | assumption) rfl ?_
  refine w_iconst (pc2 := 25) (v := iI 0) C dX1_copyFrom_24 (by decide) rfl ?_
  refine w_bipush (pc2 := 27) (v := iI 100) C dX1_copyFrom_25 (by decide) rfl ?_
  -- at 27: .invokestatic 37
  refine z_copyI (pc2 := 30) (c := 100) C dX1_copyFrom_27 cp_X1_37 js_nat js_st js_ini (by first | exact hy.k _ | assumption) (by first | exact hy.k _ | assumption) (by rfl) (by decide) (by decide) (by decide) (by decide) (Nat.le_of_ble_eq_true rfl) rfl ?_
  refine w_aload_n (pc2 := 31) C dX1_copyFrom_30 rfl rfl ?_
  refine w_aload_n (pc2 := 32) C dX1_copyFrom_31 rfl rfl ?_
  refine z_getI (pc2 := 35) C dX1_copyFrom_32 fl_X1_18 (by first | exact hy.k _ | assumption) rfl ?_
  refine z_putI (pc2 := 38) C dX1_copyFrom_35 fl_X1_18 (by first | exact hy.k _ | assumption) (by rfl) (by rfl) rfl ?_
  refine w_aload_n (pc2 := 39) C dX1_copyFrom_38 rfl rfl ?_
  refine w_aload_n (pc2 := 40) C dX1_copyFrom_39 rfl rfl ?_
  refine z_getI (pc2 := 43) C dX1_copyFrom_40 fl_X1_22 (by first | exact hy.k _ | assumption) rfl ?_
  refine z_putI (pc2 := 46) C dX1_copyFrom_43 fl_X1_22 (by first | exact hy.k _ | assumption) (by rfl) (by rfl) rfl ?_
  refine w_aload_n (pc2 := 47) C dX1_copyFrom_46 rfl rfl ?_
  refine w_aload_n (pc2 := 48) C dX1_copyFrom_47 rfl rfl ?_
  refine z_getI (pc2 := 51) C dX1_copyFrom_48 fl_X1_25 (by first | exact hy.k _ | assumption) rfl ?_
  refine z_putI (pc2 := 54) C dX1_copyFrom_51 fl_X1_25 (by first | exact hy.k _ | assumption) (by rfl) (by rfl) rfl ?_
  -- at 54: .return_
  exact w_ret C dX1_copyFrom_54 (by decide) (by decide) (⟨rfl, rfl, rfl, rfl, rfl, rfl⟩)
theorem s_X0_copyFrom {a b : Nat} (ha : LyCl K R a) (hb : LyCl K R b) : S_X0_copyFrom [.ref a, .ref b] n K (zw J) L R (Det none n K (zw J) (cpyL L (b + 1) (a + 1) 24) R) := by
  obtain ⟨ha1, ha2, ha3⟩ := ha
  obtain ⟨hb1, hb2, hb3⟩ := hb
  refine Sp_intro [some (.ref a), some (.ref b)] rfl rfl (Nat.le_of_ble_eq_true rfl) rfl ?_
  intro Γ C
  replace C : C_X0_copyFrom Γ := C
  refine w_aload_n (pc2 := 1) C dX0_copyFrom_0 rfl rfl ?_
  refine w_getR (pc2 := 4) C dX0_copyFrom_1 fl_X0_9 (by first | exact hy.k _ | assumption) (by first | exact hy.r _ _ | assumption) rfl ?_
  refine w_iconst (pc2 := 5) (v := iI 0) C dX0_copyFrom_4 (by decide) rfl ?_
  refine w_aload_n (pc2 := 6) C dX0_copyFrom_5 rfl rfl ?_
  refine w_getR (pc2 := 9) C dX0_copyFrom_6 fl_X0_9 (by first | exact hy.k _ | assumption) (by first | exact hy.r _ _ | assumption) rfl ?_
  refine w_iconst (pc2 := 10) (v := iI 0) C dX0_copyFrom_9 (by decide) rfl ?_
  refine w_bipush (pc2 := 12) (v := iI 24) C dX0_copyFrom_10 (by decide) rfl ?_
  -- at 12: .invokestatic 36
  refine z_copyL (pc2 := 15) (c := 24) C dX0_copyFrom_12 cp_X0_36 js_nat js_st js_ini (by first | exact hy.k _ | assumption) (by first | exact hy.k _ | assumption) (by rfl) (by decide) (by decide) (by decide) (by decide) (Nat.le_of_ble_eq_true rfl) rfl ?_
  -- at 15: .return_
  exact w_ret C dX0_copyFrom_15 (by decide) (by decide) (⟨rfl, rfl, rfl, rfl, rfl, rfl⟩)
theorem s_X2_copyFrom {a b : Nat} (ha : LyM K R a) (hb : LyM K R b) : S_X2_copyFrom [.ref a, .ref b] n K (zw J) L R (Det none n K (zw (cpMa J a b)) (cpyL L (b + 11) (a + 11) 24) R) := by
  obtain ⟨ha1, ha2, ha3, ha4, ha5, ha6, ha7, ha8, ha9⟩ := ha
  obtain ⟨hb1, hb2, hb3, hb4, hb5, hb6, hb7, hb8, hb9⟩ := hb
  have k1 := ha6.1
  have k4 := ha7.1
  have k7 := ha8.1
  have k10 := ha9.1
  refine Sp_intro [some (.ref a), some (.ref b)] rfl rfl (Nat.le_of_ble_eq_true rfl) rfl ?_
  intro Γ C
  replace C : C_X2_copyFrom Γ := C
  refine w_aload_n (pc2 := 1) C dX2_copyFrom_0 rfl rfl ?_
  refine w_getR (pc2 := 4) C dX2_copyFrom_1 fl_X2_12 (by first | exact hy.k _ | assumption) (by first | exact hy.r _ _ | assumption) rfl ?_
  refine w_aload_n (pc2 := 5) C dX2_copyFrom_4 rfl rfl ?_
  refine w_getR (pc2 := 8) C dX2_copyFrom_5 fl_X2_12 (by first | exact hy.k _ | assumption) (by first | exact hy.r _ _ | assumption) rfl ?_
  -- at 8: .invokevirtual 52
  refine w_cVv (pc2 := 11)  C dX2_copyFrom_8 mb_X2_52 mv_X5_copyFrom (s_X5_copyFrom ha6 hb6) (by first | exact hy.k _ | assumption) rfl (by decide) rfl rfl (Nat.le_of_ble_eq_true rfl) ⟨by decide, by decide⟩ ⟨rfl, rfl⟩ ⟨by decide, by decide⟩ rfl ?_
  refine w_aload_n (pc2 := 12) C dX2_copyFrom_11 rfl rfl ?_
  refine w_getR (pc2 := 15) C dX2_copyFrom_12 fl_X2_21 (by first | exact hy.k _ | assumption) (by first | exact hy.r _ _ | assumption) rfl ?_
  refine w_aload_n (pc2 := 16) C dX2_copyFrom_15 rfl rfl ?_
  refine w_getR (pc2 := 19) C dX2_copyFrom_16 fl_X2_21 (by first | exact hy.k _ | assumption) (by first | exact hy.r _ _ | assumption) rfl ?_
  -- at 19: .invokevirtual 56
  refine w_cVv (pc2 := 22)  C dX2_copyFrom_19 mb_X2_56 mv_X8_copyFrom (s_X8_copyFrom ha7 hb7) (by first | exact hy.k _ | assumption) rfl (by decide) rfl rfl (Nat.le_of_ble_eq_true rfl) ⟨by decide, by decide⟩ ⟨rfl, rfl⟩ ⟨by decide, by decide⟩ rfl ?_
  refine w_aload_n (pc2 := 23) C dX2_copyFrom_22 rfl rfl ?_
  refine w_getR (pc2 := 26) C dX2_copyFrom_23 fl_X2_28 (by first | exact hy.k _ | assumption) (by first | exact hy.r _ _ | assumption) rfl ?_
  refine w_aload_n (pc2 := 27) C dX2_copyFrom_26 rfl rfl ?_
  refine w_getR (pc2 := 30) C dX2_copyFrom_27 fl_X2_28 (by first | exact hy.k _ | assumption) (by first | exact hy.r _ _ | assumption) rfl ?_
  -- at 30: .invokevirtual 59
  refine w_cVv (pc2 := 33)  C dX2_copyFrom_30 mb_X2_59 mv_X1_copyFrom (s_X1_copyFrom ha8 hb8) (by first | exact hy.k _ | assumption) rfl (by decide) rfl rfl (Nat.le_of_ble_eq_true rfl) ⟨by decide, by decide⟩ ⟨rfl, rfl⟩ ⟨by decide, by decide⟩ rfl ?_
  refine w_aload_n (pc2 := 34) C dX2_copyFrom_33 rfl rfl ?_
  refine w_getR (pc2 := 37) C dX2_copyFrom_34 fl_X2_35 (by first | exact hy.k _ | assumption) (by first | exact hy.r _ _ | assumption) rfl ?_
  refine w_aload_n (pc2 := 38) C dX2_copyFrom_37 rfl rfl ?_
  refine w_getR (pc2 := 41) C dX2_copyFrom_38 fl_X2_35 (by first | exact hy.k _ | assumption) (by first | exact hy.r _ _ | assumption) rfl ?_
  -- at 41: .invokevirtual 62
  refine w_cVv (pc2 := 44)  C dX2_copyFrom_41 mb_X2_62 mv_X0_copyFrom (s_X0_copyFrom ha9 hb9) (by first | exact hy.k _ | assumption) rfl (by decide) rfl rfl (Nat.le_of_ble_eq_true rfl) ⟨by decide, by decide⟩ ⟨rfl, rfl⟩ ⟨by decide, by decide⟩ rfl ?_
  refine w_aload_n (pc2 := 45) C dX2_copyFrom_44 rfl rfl ?_
  refine w_aload_n (pc2 := 46) C dX2_copyFrom_45 rfl rfl ?_
  refine z_getI (pc2 := 49) C dX2_copyFrom_46 fl_X2_39 (by first | exact hy.k _ | assumption) rfl ?_
  refine z_putI (pc2 := 52) C dX2_copyFrom_49 fl_X2_39 (by first | exact hy.k _ | assumption) (by rfl) (by rfl) rfl ?_
  refine w_aload_n (pc2 := 53) C dX2_copyFrom_52 rfl rfl ?_
  refine w_aload_n (pc2 := 54) C dX2_copyFrom_53 rfl rfl ?_
  refine z_getI (pc2 := 57) C dX2_copyFrom_54 fl_X2_43 (by first | exact hy.k _ | assumption) rfl ?_
  refine z_putI (pc2 := 60) C dX2_copyFrom_57 fl_X2_43 (by first | exact hy.k _ | assumption) (by rfl) (by rfl) rfl ?_
  refine w_aload_n (pc2 := 61) C dX2_copyFrom_60 rfl rfl ?_
  refine w_aload_n (pc2 := 62) C dX2_copyFrom_61 rfl rfl ?_
  refine z_getI (pc2 := 65) C dX2_copyFrom_62 fl_X2_46 (by first | exact hy.k _ | assumption) rfl ?_
  refine z_putI (pc2 := 68) C dX2_copyFrom_65 fl_X2_46 (by first | exact hy.k _ | assumption) (by rfl) (by rfl) rfl ?_
  refine w_aload_n (pc2 := 69) C dX2_copyFrom_68 rfl rfl ?_
  refine w_aload_n (pc2 := 70) C dX2_copyFrom_69 rfl rfl ?_
  refine z_getI (pc2 := 73) C dX2_copyFrom_70 fl_X2_49 (by first | exact hy.k _ | assumption) rfl ?_
  refine z_putI (pc2 := 76) C dX2_copyFrom_73 fl_X2_49 (by first | exact hy.k _ | assumption) (by rfl) (by rfl) rfl ?_
  -- at 76: .return_
  exact w_ret C dX2_copyFrom_76 (by decide) (by decide) (⟨rfl, rfl, rfl, rfl, rfl, rfl⟩)
end COPY
