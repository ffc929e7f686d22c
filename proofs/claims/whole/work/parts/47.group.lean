/-- a group's head from p on, o groups open: a FAULT, or (rounds, the place behind the brace) -/
def opn (s : Nat → Int) (t p o : Nat) : Flt ⊕ (Int × Nat) := match num s t p 1 9 with
  | .inl f => .inl f
  | .inr (v, _, e) => if s (nb s t e) = 120 then (if s (nb s t (nb s t e + 1)) = 123 then (if 4 ≤ o then .inl (3, nb s t (nb s t e + 1)) else .inr (v, nb s t (nb s t e + 1) + 1)) else .inl (1, nb s t (nb s t e + 1))) else .inl (1, nb s t e)
theorem exJ_row {J : wJn} {s : Nat → Int} {t p : Nat} {x : Int} {a : Nat} (h : a ≠ 3) : exJ J s t p x a = J a := by
  unfold exJ
  split
  · exact up2_row h
  · rw [flJ_row h, up2_row h]
theorem exJ_b {J : wJn} {s : Nat → Int} {t p : Nat} {x : Int} {b : Nat} (h1 : b ≠ 1) (h2 : b ≠ 2) (h9 : b ≠ 9) : exJ J s t p x 3 b = J 3 b := by
  unfold exJ
  split
  · exact up2_n _ _ _ _ (by omega)
  · rw [flJ_f h1 h2, up2_n _ _ _ _ (by omega)]
theorem exJ_9 {J : wJn} {s : Nat → Int} {t p : Nat} {x : Int} (hs : Sg s t) (hx : 0 ≤ x) (hp : p ≤ t) : ∃ p2 : Nat, p2 ≤ t ∧ exJ J s t p x 3 9 = p2 := by
  unfold exJ
  have h1 := nb_le (s := s) hp
  split
  · rename_i h
    have := hs.lt (p := nb s t p) (by omega)
    exact ⟨nb s t p + 1, by omega, by rw [up2_s]; omega⟩
  · exact ⟨nb s t p, h1, by rw [flJ_f (by decide) (by decide), up2_s]⟩
theorem exJ_bad {J : wJn} {s : Nat → Int} {t p : Nat} {x : Int} (h : ¬ J 3 1 = 0) : exJ J s t p x 3 1 = J 3 1 ∧ exJ J s t p x 3 2 = J 3 2 := by
  unfold exJ
  split
  · exact ⟨up2_n _ _ _ _ (by omega), up2_n _ _ _ _ (by omega)⟩
  · have e : ¬ up2 J 3 9 (nb s t p : Int) 3 1 = 0 := by rw [up2_n _ _ _ _ (by omega)]; exact h
    rw [flJ_1, flJ_2, if_neg e, if_neg e]
    exact ⟨up2_n _ _ _ _ (by omega), up2_n _ _ _ _ (by omega)⟩
theorem exJ_yes {J : wJn} {s : Nat → Int} {t p : Nat} {x : Int} (hx : s (nb s t p) = x) : exJ J s t p x 3 1 = J 3 1 ∧ exJ J s t p x 3 2 = J 3 2 ∧ exJ J s t p x 3 9 = ((nb s t p + 1 : Nat) : Int) := by
  unfold exJ
  rw [if_pos hx]
  exact ⟨up2_n _ _ _ _ (by omega), up2_n _ _ _ _ (by omega), by rw [up2_s]; omega⟩
theorem exJ_no {J : wJn} {s : Nat → Int} {t p : Nat} {x : Int} (h : J 3 1 = 0) (hx : ¬ s (nb s t p) = x) : exJ J s t p x 3 1 = 1 ∧ exJ J s t p x 3 2 = (nb s t p : Nat) := by
  unfold exJ
  rw [if_neg hx]
  have e : up2 J 3 9 (nb s t p : Int) 3 1 = 0 := by rw [up2_n _ _ _ _ (by omega)]; exact h
  rw [flJ_1, flJ_2, if_pos e, if_pos e]
  exact ⟨rfl, rfl⟩
theorem exJ_bd {J : wJn} {s : Nat → Int} {t p : Nat} {x : Int} (h : 0 ≤ J 3 1 ∧ J 3 1 ≤ 4) : 0 ≤ exJ J s t p x 3 1 ∧ exJ J s t p x 3 1 ≤ 4 := by
  by_cases q : J 3 1 = 0
  · by_cases q2 : s (nb s t p) = x
    · rw [(exJ_yes q2).1]; exact h
    · rw [(exJ_no q q2).1]; omega
  · rw [(exJ_bad q).1]; exact h
/-- what openGroup leaves -/
def RdG (J J2 : wJn) (o : Nat) (r : Flt ⊕ (Int × Nat)) : Prop := (0 ≤ J2 3 1 ∧ J2 3 1 ≤ 4) ∧ (∀ f, r = .inl f → J2 3 1 = f.1 ∧ J2 3 2 = f.2 ∧ f.1 ≠ 0 ∧ ∀ a, a ≠ 3 → J2 a = J a) ∧ (∀ v e, r = .inr (v, e) → J2 3 1 = 0 ∧ J2 3 2 = J 3 2 ∧ J2 3 9 = (e : Nat) ∧ J2 3 8 = ((o + 1 : Nat) : Int) ∧ J2 3 11 = J 3 11 ∧ J2 3 12 = J 3 12 ∧ (∀ a, a ≠ 3 → a ≠ 7 → a ≠ 8 → a ≠ 9 → a ≠ 10 → J2 a = J a) ∧ (∀ i, i ≠ o → J2 7 i = J 7 i ∧ J2 8 i = J 8 i ∧ J2 9 i = J 9 i ∧ J2 10 i = J 10 i) ∧ J2 7 o = (e : Nat) ∧ J2 8 o = v ∧ J2 9 o = J 3 11 ∧ J2 10 o = J 3 12)
/-- what closeGroup does -/
def clJ (J : wJn) (p o : Nat) : wJn := if o = 0 then flJ J 1 p else
  if 0 < J 8 (o - 1) - 1 ∧ J 10 (o - 1) < J 3 12 then up2 (up2 (up2 J 8 (o - 1) (J 8 (o - 1) - 1)) 3 9 (J 7 (o - 1))) 3 11 (J 9 (o - 1))
  else up2 (up2 (up2 J 8 (o - 1) (J 8 (o - 1) - 1)) 3 8 ((o : Int) - 1)) 3 9 ((p : Int) + 1)
def stJ (J : wJn) : wJn := up2 (up2 (up2 (up2 (up2 (up2 (up2 (up2 J 4 2 0) 4 3 0) 3 1 0) 3 2 (-1)) 3 8 0) 3 9 0) 3 11 4) 3 12 0
section GROUP
variable {n : Nat} {K : wKd} {J : wJn} {L : wLn} {R : wRf}
theorem s_X4_start (hy : Ly K R) : S_X4_start [.ref 3] n K (zw J) L R (Det none n K (zw (stJ J)) L R) := by
  refine Sp_intro [some (.ref 3)] rfl rfl (Nat.le_of_ble_eq_true rfl) rfl ?_
  intro Γ C
  replace C : C_X4_start Γ := C
  refine w_aload_n (pc2 := 1) C dX4_start_0 rfl rfl ?_
  refine w_getR (pc2 := 4) C dX4_start_1 fl_X4_12 (by first | exact hy.k _ | assumption) (by first | exact hy.r _ _ | assumption) rfl ?_
  -- at 4: .invokevirtual 77
  refine w_cVv (pc2 := 7)  C dX4_start_4 mb_X4_77 mv_X5_clear (s_X5_clear hy) (by first | exact hy.k _ | assumption) rfl (by decide) rfl rfl (Nat.le_of_ble_eq_true rfl) ⟨by decide, by decide⟩ ⟨rfl, rfl⟩ ⟨by decide, by decide⟩ rfl ?_
  refine w_aload_n (pc2 := 8) C dX4_start_7 rfl rfl ?_
  refine w_iconst (pc2 := 9) (v := iI 0) C dX4_start_8 (by decide) rfl ?_
  refine z_putI (pc2 := 12) C dX4_start_9 fl_X4_68 (by first | exact hy.k _ | assumption) (by rfl) (by rfl) rfl ?_
  refine w_aload_n (pc2 := 13) C dX4_start_12 rfl rfl ?_
  refine w_iconst (pc2 := 14) (v := iI (-1)) C dX4_start_13 (by decide) rfl ?_
  refine z_putI (pc2 := 17) C dX4_start_14 fl_X4_80 (by first | exact hy.k _ | assumption) (by rfl) (by rfl) rfl ?_
  refine w_aload_n (pc2 := 18) C dX4_start_17 rfl rfl ?_
  refine w_iconst (pc2 := 19) (v := iI 0) C dX4_start_18 (by decide) rfl ?_
  refine z_putI (pc2 := 22) C dX4_start_19 fl_X4_57 (by first | exact hy.k _ | assumption) (by rfl) (by rfl) rfl ?_
  refine w_aload_n (pc2 := 23) C dX4_start_22 rfl rfl ?_
  refine w_iconst (pc2 := 24) (v := iI 0) C dX4_start_23 (by decide) rfl ?_
  refine z_putI (pc2 := 27) C dX4_start_24 fl_X4_61 (by first | exact hy.k _ | assumption) (by rfl) (by rfl) rfl ?_
  refine w_aload_n (pc2 := 28) C dX4_start_27 rfl rfl ?_
  refine w_iconst (pc2 := 29) (v := iI 4) C dX4_start_28 (by decide) rfl ?_
  refine z_putI (pc2 := 32) C dX4_start_29 fl_X4_83 (by first | exact hy.k _ | assumption) (by rfl) (by rfl) rfl ?_
  refine w_aload_n (pc2 := 33) C dX4_start_32 rfl rfl ?_
  refine w_iconst (pc2 := 34) (v := iI 0) C dX4_start_33 (by decide) rfl ?_
  refine z_putI (pc2 := 37) C dX4_start_34 fl_X4_71 (by first | exact hy.k _ | assumption) (by rfl) (by rfl) rfl ?_
  -- at 37: .return_
  exact w_ret C dX4_start_37 (by decide) (by decide) (⟨rfl, rfl, rfl, rfl, rfl, rfl⟩)
theorem s_X4_closeGroup (hy : Ly K R) {p o : Nat} (hp : J 3 9 = p) (ho : J 3 8 = o) (ho2 : o ≤ 4) (hf : J 3 1 = 0) (hr : 0 < o → -100 ≤ J 8 (o - 1) ∧ J 8 (o - 1) ≤ 100) (ht : 0 < o → R32 (J 10 (o - 1))) (ht2 : R32 (J 3 12)) : S_X4_closeGroup [.ref 3] n K (zw J) L R (Det none n K (zw (clJ J p o)) L R) := by
  refine Sp_intro [some (.ref 3), none, none] rfl rfl (Nat.le_of_ble_eq_true rfl) rfl ?_
  intro Γ C
  replace C : C_X4_closeGroup Γ := C
  refine w_aload_n (pc2 := 1) C dX4_closeGroup_0 rfl rfl ?_
  refine z_getI (pc2 := 4) C dX4_closeGroup_1 fl_X4_57 (by first | exact hy.k _ | assumption) rfl ?_
  -- at 4: .ifCond .ne 13
  refine z_if_ne (pc2 := 7) (tgt := 17) C dX4_closeGroup_4 (by decide) rfl (by omega) (fun g1 => ?_) (fun g1 => ?_)
  · have hr := hr (by omega)
    have ht := ht (by omega)
    have e12 : up2 J 8 (o - 1) (J 8 (o - 1) - 1) 3 12 = J 3 12 := by rw [up2_row (by decide)]
    have fin : ∀ x : Int, x = 0 ∨ x = 1 → (x = 1 ↔ (0 < J 8 (o - 1) - 1 ∧ J 10 (o - 1) < J 3 12)) → wp Γ 0 0 (QQ Γ (Det none n K (zw (clJ J p o)) L R)) 61 [some (.ref 3), some (.int (iI ((o : Int) - 1))), none] [.int (iI x)] n K (zw (up2 J 8 (o - 1) (J 8 (o - 1) - 1))) L R := by
      intro x hx hx2
      refine w_istore_n (pc2 := 62) C dX4_closeGroup_61 rfl (by decide) rfl rfl ?_
      try dsimp only [List.set]
      refine w_iload_n (pc2 := 63) C dX4_closeGroup_62 rfl rfl ?_
      -- at 63: .ifCond .eq 26
      refine z_if_eq (pc2 := 66) (tgt := 89) C dX4_closeGroup_63 (by decide) rfl (by omega) (fun g2 => ?_) (fun g2 => ?_)
      · skip
        refine w_aload_n (pc2 := 90) C dX4_closeGroup_89 rfl rfl ?_
        refine w_iload_n (pc2 := 91) C dX4_closeGroup_90 rfl rfl ?_
        refine z_putI (pc2 := 94) C dX4_closeGroup_91 fl_X4_57 (by first | exact hy.k _ | assumption) (by rfl) (by rfl) rfl ?_
        refine w_aload_n (pc2 := 95) C dX4_closeGroup_94 rfl rfl ?_
        refine w_dup (pc2 := 96) C dX4_closeGroup_95 rfl rfl ?_
        refine z_getI (pc2 := 99) C dX4_closeGroup_96 fl_X4_61 (by first | exact hy.k _ | assumption) rfl ?_
        refine w_iconst (pc2 := 100) (v := iI 1) C dX4_closeGroup_99 (by decide) rfl ?_
        refine z_iadd (pc2 := 101) C dX4_closeGroup_100 rfl ?_
        refine z_putI (pc2 := 104) C dX4_closeGroup_101 fl_X4_61 (by first | exact hy.k _ | assumption) (by rfl) (by rfl) rfl ?_
        -- at 104: .return_
        exact w_ret C dX4_closeGroup_104 (by decide) (by decide) (DetI rfl (by rw [clJ, if_neg (by omega), if_neg (fun q => by have := hx2.mpr q; omega), up2_n _ _ _ _ (show ¬ (3 = 3 ∧ 9 = 8) by omega), up2_row (show 3 ≠ 8 by decide), hp]))
      · skip
        refine w_aload_n (pc2 := 67) C dX4_closeGroup_66 rfl rfl ?_
        refine w_aload_n (pc2 := 68) C dX4_closeGroup_67 rfl rfl ?_
        refine w_getR (pc2 := 71) C dX4_closeGroup_68 fl_X4_18 (by first | exact hy.k _ | assumption) (by first | exact hy.r _ _ | assumption) rfl ?_
        refine w_iload_n (pc2 := 72) C dX4_closeGroup_71 rfl rfl ?_
        -- at 72: .iaload
        refine z_iald (pc2 := 73) (j := o - 1) C dX4_closeGroup_72 (by first | exact hy.k _ | assumption) (by omega) (by omega) (by decide) rfl ?_
        refine z_putI (pc2 := 76) C dX4_closeGroup_73 fl_X4_61 (by first | exact hy.k _ | assumption) (by rfl) (by rfl) rfl ?_
        refine w_aload_n (pc2 := 77) C dX4_closeGroup_76 rfl rfl ?_
        refine w_aload_n (pc2 := 78) C dX4_closeGroup_77 rfl rfl ?_
        refine w_getR (pc2 := 81) C dX4_closeGroup_78 fl_X4_25 (by first | exact hy.k _ | assumption) (by first | exact hy.r _ _ | assumption) rfl ?_
        refine w_iload_n (pc2 := 82) C dX4_closeGroup_81 rfl rfl ?_
        -- at 82: .iaload
        refine z_iald (pc2 := 83) (j := o - 1) C dX4_closeGroup_82 (by first | exact hy.k _ | assumption) (by omega) (by omega) (by decide) rfl ?_
        refine z_putI (pc2 := 86) C dX4_closeGroup_83 fl_X4_83 (by first | exact hy.k _ | assumption) (by rfl) (by rfl) rfl ?_
        refine w_goto (tgt := 104) C dX4_closeGroup_86 (by decide) ?_
        -- at 104: .return_
        exact w_ret C dX4_closeGroup_104 (by decide) (by decide) (DetI rfl (by rw [clJ, if_neg (by omega), if_pos (hx2.mp (by omega)), up2_row (show 9 ≠ 3 by decide), up2_row (show 9 ≠ 8 by decide), up2_row (show 7 ≠ 8 by decide)]))
    refine w_aload_n (pc2 := 18) C dX4_closeGroup_17 rfl rfl ?_
    refine z_getI (pc2 := 21) C dX4_closeGroup_18 fl_X4_57 (by first | exact hy.k _ | assumption) rfl ?_
    refine w_iconst (pc2 := 22) (v := iI 1) C dX4_closeGroup_21 (by decide) rfl ?_
    refine z_isub (pc2 := 23) C dX4_closeGroup_22 rfl ?_
    refine w_istore_n (pc2 := 24) C dX4_closeGroup_23 rfl (by decide) rfl rfl ?_
    try dsimp only [List.set]
    refine w_aload_n (pc2 := 25) C dX4_closeGroup_24 rfl rfl ?_
    refine w_getR (pc2 := 28) C dX4_closeGroup_25 fl_X4_22 (by first | exact hy.k _ | assumption) (by first | exact hy.r _ _ | assumption) rfl ?_
    refine w_iload_n (pc2 := 29) C dX4_closeGroup_28 rfl rfl ?_
    refine w_dup2 (pc2 := 30) C dX4_closeGroup_29 rfl rfl rfl ?_
    -- at 30: .iaload
    rw [ho]
    refine z_iald (pc2 := 31) (j := o - 1) C dX4_closeGroup_30 (by first | exact hy.k _ | assumption) (by omega) (by omega) (by decide) rfl ?_
    refine w_iconst (pc2 := 32) (v := iI 1) C dX4_closeGroup_31 (by decide) rfl ?_
    refine z_isub (pc2 := 33) C dX4_closeGroup_32 rfl ?_
    -- at 33: .iastore
    refine z_iast (pc2 := 34) (j := o - 1) C dX4_closeGroup_33 (by first | exact hy.k _ | assumption) (by omega) (by omega) (by decide) rfl ?_
    refine w_aload_n (pc2 := 35) C dX4_closeGroup_34 rfl rfl ?_
    refine w_getR (pc2 := 38) C dX4_closeGroup_35 fl_X4_22 (by first | exact hy.k _ | assumption) (by first | exact hy.r _ _ | assumption) rfl ?_
    refine w_iload_n (pc2 := 39) C dX4_closeGroup_38 rfl rfl ?_
    -- at 39: .iaload
    refine z_iald (pc2 := 40) (j := o - 1) C dX4_closeGroup_39 (by first | exact hy.k _ | assumption) (by omega) (by omega) (by decide) rfl ?_
    rw [up2_s]
    refine z_if_le (pc2 := 43) (tgt := 60) C dX4_closeGroup_40 (by decide) rfl (by omega) (fun g2 => ?_) (fun g2 => ?_)
    · skip
      refine w_iconst (pc2 := 61) (v := iI 0) C dX4_closeGroup_60 (by decide) rfl ?_
      -- at 61: .istore_n 2
      exact fin 0 (Or.inl rfl) ⟨fun q => by omega, fun q => by omega⟩
    · skip
      refine w_aload_n (pc2 := 44) C dX4_closeGroup_43 rfl rfl ?_
      refine z_getI (pc2 := 47) C dX4_closeGroup_44 fl_X4_71 (by first | exact hy.k _ | assumption) rfl ?_
      refine w_aload_n (pc2 := 48) C dX4_closeGroup_47 rfl rfl ?_
      refine w_getR (pc2 := 51) C dX4_closeGroup_48 fl_X4_28 (by first | exact hy.k _ | assumption) (by first | exact hy.r _ _ | assumption) rfl ?_
      refine w_iload_n (pc2 := 52) C dX4_closeGroup_51 rfl rfl ?_
      -- at 52: .iaload
      rw [e12]
      refine z_iald (pc2 := 53) (j := o - 1) C dX4_closeGroup_52 (by first | exact hy.k _ | assumption) (by omega) (by omega) (by decide) rfl ?_
      rw [up2_row (show 10 ≠ 8 by decide)]
      refine z_icmp_le (pc2 := 56) (tgt := 60) C dX4_closeGroup_53 (by decide) rfl (by omega) (by omega) (fun g3 => ?_) (fun g3 => ?_)
      · skip
        refine w_iconst (pc2 := 61) (v := iI 0) C dX4_closeGroup_60 (by decide) rfl ?_
        -- at 61: .istore_n 2
        exact fin 0 (Or.inl rfl) ⟨fun q => by omega, fun q => by omega⟩
      · skip
        refine w_iconst (pc2 := 57) (v := iI 1) C dX4_closeGroup_56 (by decide) rfl ?_
        refine w_goto (tgt := 61) C dX4_closeGroup_57 (by decide) ?_
        -- at 61: .istore_n 2
        exact fin 1 (Or.inr rfl) ⟨fun q => by omega, fun q => rfl⟩
  · skip
    refine w_aload_n (pc2 := 8) C dX4_closeGroup_7 rfl rfl ?_
    refine w_iconst (pc2 := 9) (v := iI 1) C dX4_closeGroup_8 (by decide) rfl ?_
    refine w_aload_n (pc2 := 10) C dX4_closeGroup_9 rfl rfl ?_
    refine z_getI (pc2 := 13) C dX4_closeGroup_10 fl_X4_61 (by first | exact hy.k _ | assumption) rfl ?_
    -- at 13: .invokevirtual 64
    rw [hp]
    refine w_cVv (pc2 := 16)  C dX4_closeGroup_13 mb_X4_64 mv_X4_fail (s_X4_fail hy (by omega)) (by first | exact hy.k _ | assumption) rfl (by decide) rfl rfl (Nat.le_of_ble_eq_true rfl) ⟨by decide, by decide⟩ ⟨rfl, rfl⟩ ⟨by decide, by decide⟩ rfl ?_
    -- at 16: .return_
    exact w_ret C dX4_closeGroup_16 (by decide) (by decide) (DetI rfl (by rw [clJ, if_pos (by omega)]))
theorem s_X4_openGroup (hy : Ly K R) {s : Nat → Int} {t p o : Nat} (hT : Txt J s t) (hp : J 3 9 = p) (hpt : p ≤ t) (hf : J 3 1 = 0) (ho : J 3 8 = o) (ho2 : o ≤ 4) : S_X4_openGroup [.ref 3] n K (zw J) L R (fun r2 n2 K2 I2 L2 R2 => ∃ J2 : wJn, Det none n K (zw J2) L R r2 n2 K2 I2 L2 R2 ∧ RdG J J2 o (opn s t p o)) := by
  have h2 := hT.2.1
  have h3 := h2.1
  have hql := nb_le (s := s) hpt
  have hde := dg_le h2 hql
  refine Sp_intro [some (.ref 3), none] rfl rfl (Nat.le_of_ble_eq_true rfl) rfl ?_
  intro Γ C
  replace C : C_X4_openGroup Γ := C
  generalize hpost : (fun (r2 : Option Value) (n2 : Nat) (K2 : wKd) (I2 : wIn) (L2 : wLn) (R2 : wRf) => ∃ J2 : wJn, Det none n K (zw J2) L R r2 n2 K2 I2 L2 R2 ∧ RdG J J2 o (opn s t p o)) = post
  -- the last brace, and the push
  have fin : ∀ (J2 : wJn) (p2 : Nat) (v : Int), (∀ a, a ≠ 3 → J2 a = J a) → (∀ b, b = 8 ∨ b = 11 ∨ b = 12 → J2 3 b = J 3 b) → p2 ≤ t → J2 3 9 = p2 → (0 ≤ J2 3 1 ∧ J2 3 1 ≤ 4) →
      (¬ J2 3 1 = 0 → ∃ f : Flt, opn s t p o = .inl f ∧ J2 3 1 = f.1 ∧ J2 3 2 = f.2) →
      (J2 3 1 = 0 → J2 3 2 = J 3 2 ∧ (s (nb s t p2) = 123 → o < 4 ∧ opn s t p o = .inr (v, nb s t p2 + 1)) ∧ (¬ s (nb s t p2) = 123 → opn s t p o = .inl (1, nb s t p2))) →
      wp Γ 0 0 (QQ Γ post) 40 [some (.ref 3), some (.int (iI v))] [] n K (zw J2) L R := by
    intro J2 p2 v b0 bb hp2 b9 b1 hbad hgood
    have hT2 : Txt J2 s t := hT.rows (b0 1 (by decide)) (b0 2 (by decide))
    have hq2 := nb_le (s := s) hp2
    refine w_aload_n (pc2 := 41) C dX4_openGroup_40 rfl rfl ?_
    refine w_bipush (pc2 := 43) (v := iI 123) C dX4_openGroup_41 (by decide) rfl ?_
    -- at 43: .invokevirtual 90
    refine w_cVv (pc2 := 46)  C dX4_openGroup_43 mb_X4_90 mv_X4_expect (s_X4_expect hy (x := 123) (by omega) hT2 b9 hp2 (by omega)) (by first | exact hy.k _ | assumption) rfl (by decide) rfl rfl (Nat.le_of_ble_eq_true rfl) ⟨by decide, by decide⟩ ⟨rfl, rfl⟩ ⟨by decide, by decide⟩ rfl ?_
    have hJ4 : ∃ J4, J4 = exJ J2 s t p2 123 := ⟨_, rfl⟩
    obtain ⟨J4, eJ⟩ := hJ4
    rw [← eJ]
    have c0 : ∀ a, a ≠ 3 → J4 a = J a := fun a ha => by rw [eJ, exJ_row ha]; exact b0 a ha
    have cb : ∀ b, b = 8 ∨ b = 11 ∨ b = 12 → J4 3 b = J 3 b := fun b hb => by rw [eJ, exJ_b (by omega) (by omega) (by omega)]; exact bb b hb
    have c1 : 0 ≤ J4 3 1 ∧ J4 3 1 ≤ 4 := by rw [eJ]; exact exJ_bd b1
    refine w_aload_n (pc2 := 47) C dX4_openGroup_46 rfl rfl ?_
    refine z_getI (pc2 := 50) C dX4_openGroup_47 fl_X4_68 (by first | exact hy.k _ | assumption) rfl ?_
    -- at 50: .ifCond .ne 70
    refine z_if_ne (pc2 := 53) (tgt := 120) C dX4_openGroup_50 (by decide) rfl (by omega) (fun g1 => ?_) (fun g1 => ?_)
    · skip
      exact w_ret C dX4_openGroup_120 (by decide) (by decide) (by
        rw [← hpost]
        refine ⟨J4, DetI rfl rfl, c1, fun f h => ?_, fun w e h => ?_⟩
        · by_cases q : J2 3 1 = 0
          · obtain ⟨k1, k2, k3⟩ := hgood q
            by_cases q2 : s (nb s t p2) = 123
            · rw [eJ, (exJ_yes q2).1] at g1; exact absurd q g1
            · rw [k3 q2] at h
              injection h with h
              subst h
              rw [eJ]
              exact ⟨(exJ_no q q2).1, (exJ_no q q2).2, by show (1 : Int) ≠ 0; decide, fun a ha => by rw [← eJ]; exact c0 a ha⟩
          · obtain ⟨f2, k1, k2, k3⟩ := hbad q
            rw [k1] at h
            injection h with h
            subst h
            rw [eJ]
            exact ⟨by rw [(exJ_bad q).1, k2], by rw [(exJ_bad q).2, k3], by rw [← k2]; exact q, fun a ha => by rw [← eJ]; exact c0 a ha⟩
        · by_cases q : J2 3 1 = 0
          · obtain ⟨k1, k2, k3⟩ := hgood q
            by_cases q2 : s (nb s t p2) = 123
            · rw [eJ, (exJ_yes q2).1] at g1; exact absurd q g1
            · rw [k3 q2] at h; cases h
          · obtain ⟨f2, k1, k2, k3⟩ := hbad q
            rw [k1] at h; cases h)
    · have q : J2 3 1 = 0 := by
        rcases Decidable.em (J2 3 1 = 0) with z | z
        · exact z
        · rw [eJ, (exJ_bad z).1] at g1; exact absurd g1 z
      obtain ⟨k1, k2, k3⟩ := hgood q
      have q2 : s (nb s t p2) = 123 := by
        rcases Decidable.em (s (nb s t p2) = 123) with z | z
        · exact z
        · rw [eJ, (exJ_no q z).1] at g1; exact absurd g1 (by decide)
      obtain ⟨k4, k5⟩ := k2 q2
      have hlt : nb s t p2 < t := h2.lt (by omega)
      have e8 : J4 3 8 = o := by rw [cb 8 (by omega)]; exact ho
      have e9 : J4 3 9 = ((nb s t p2 + 1 : Nat) : Int) := by rw [eJ]; exact (exJ_yes q2).2.2
      have e2 : J4 3 2 = J 3 2 := by rw [eJ, (exJ_yes q2).2.1, k1]
      refine w_aload_n (pc2 := 54) C dX4_openGroup_53 rfl rfl ?_
      refine z_getI (pc2 := 57) C dX4_openGroup_54 fl_X4_57 (by first | exact hy.k _ | assumption) rfl ?_
      refine w_iconst (pc2 := 58) (v := iI 4) C dX4_openGroup_57 (by decide) rfl ?_
      -- at 58: .if_icmp .ge 62
      rw [e8]
      refine z_icmp_ge (pc2 := 61) (tgt := 120) C dX4_openGroup_58 (by decide) rfl (by omega) (by omega) (fun g2 => ?_) (fun g2 => ?_)
      · exact absurd g2 (by omega)
      · skip
        refine w_aload_n (pc2 := 62) C dX4_openGroup_61 rfl rfl ?_
        refine w_getR (pc2 := 65) C dX4_openGroup_62 fl_X4_18 (by first | exact hy.k _ | assumption) (by first | exact hy.r _ _ | assumption) rfl ?_
        refine w_aload_n (pc2 := 66) C dX4_openGroup_65 rfl rfl ?_
        refine z_getI (pc2 := 69) C dX4_openGroup_66 fl_X4_57 (by first | exact hy.k _ | assumption) rfl ?_
        refine w_aload_n (pc2 := 70) C dX4_openGroup_69 rfl rfl ?_
        refine z_getI (pc2 := 73) C dX4_openGroup_70 fl_X4_61 (by first | exact hy.k _ | assumption) rfl ?_
        -- at 73: .iastore
        rw [e8, e9]
        refine z_iast (pc2 := 74) (j := o) C dX4_openGroup_73 (by first | exact hy.k _ | assumption) (by omega) (by omega) (by decide) rfl ?_
        have hJ5 : ∃ J5, J5 = up2 J4 7 o ((nb s t p2 + 1 : Nat) : Int) := ⟨_, rfl⟩
        obtain ⟨J5, eJ5⟩ := hJ5
        rw [← eJ5]
        have e83 : J5 3 = J4 3 := by rw [eJ5, up2_row (by decide)]
        refine w_aload_n (pc2 := 75) C dX4_openGroup_74 rfl rfl ?_
        refine w_getR (pc2 := 78) C dX4_openGroup_75 fl_X4_22 (by first | exact hy.k _ | assumption) (by first | exact hy.r _ _ | assumption) rfl ?_
        refine w_aload_n (pc2 := 79) C dX4_openGroup_78 rfl rfl ?_
        refine z_getI (pc2 := 82) C dX4_openGroup_79 fl_X4_57 (by first | exact hy.k _ | assumption) rfl ?_
        refine w_iload_n (pc2 := 83) C dX4_openGroup_82 rfl rfl ?_
        -- at 83: .iastore
        rw [e83, e8]
        refine z_iast (pc2 := 84) (j := o) C dX4_openGroup_83 (by first | exact hy.k _ | assumption) (by omega) (by omega) (by decide) rfl ?_
        have hJ6 : ∃ J6, J6 = up2 J5 8 o v := ⟨_, rfl⟩
        obtain ⟨J6, eJ6⟩ := hJ6
        rw [← eJ6]
        have e63 : J6 3 = J4 3 := by rw [eJ6, up2_row (by decide), e83]
        refine w_aload_n (pc2 := 85) C dX4_openGroup_84 rfl rfl ?_
        refine w_getR (pc2 := 88) C dX4_openGroup_85 fl_X4_25 (by first | exact hy.k _ | assumption) (by first | exact hy.r _ _ | assumption) rfl ?_
        refine w_aload_n (pc2 := 89) C dX4_openGroup_88 rfl rfl ?_
        refine z_getI (pc2 := 92) C dX4_openGroup_89 fl_X4_57 (by first | exact hy.k _ | assumption) rfl ?_
        refine w_aload_n (pc2 := 93) C dX4_openGroup_92 rfl rfl ?_
        refine z_getI (pc2 := 96) C dX4_openGroup_93 fl_X4_83 (by first | exact hy.k _ | assumption) rfl ?_
        -- at 96: .iastore
        rw [e63, e8, cb 11 (by omega)]
        refine z_iast (pc2 := 97) (j := o) C dX4_openGroup_96 (by first | exact hy.k _ | assumption) (by omega) (by omega) (by decide) rfl ?_
        have hJ7 : ∃ J7, J7 = up2 J6 9 o (J 3 11) := ⟨_, rfl⟩
        obtain ⟨J7, eJ7⟩ := hJ7
        rw [← eJ7]
        have e73 : J7 3 = J4 3 := by rw [eJ7, up2_row (by decide), e63]
        refine w_aload_n (pc2 := 98) C dX4_openGroup_97 rfl rfl ?_
        refine w_getR (pc2 := 101) C dX4_openGroup_98 fl_X4_28 (by first | exact hy.k _ | assumption) (by first | exact hy.r _ _ | assumption) rfl ?_
        refine w_aload_n (pc2 := 102) C dX4_openGroup_101 rfl rfl ?_
        refine z_getI (pc2 := 105) C dX4_openGroup_102 fl_X4_57 (by first | exact hy.k _ | assumption) rfl ?_
        refine w_aload_n (pc2 := 106) C dX4_openGroup_105 rfl rfl ?_
        refine z_getI (pc2 := 109) C dX4_openGroup_106 fl_X4_71 (by first | exact hy.k _ | assumption) rfl ?_
        -- at 109: .iastore
        rw [e73, e8, cb 12 (by omega)]
        refine z_iast (pc2 := 110) (j := o) C dX4_openGroup_109 (by first | exact hy.k _ | assumption) (by omega) (by omega) (by decide) rfl ?_
        have hJ8 : ∃ J8, J8 = up2 J7 10 o (J 3 12) := ⟨_, rfl⟩
        obtain ⟨J8, eJ8⟩ := hJ8
        rw [← eJ8]
        have e33 : J8 3 = J4 3 := by rw [eJ8, up2_row (by decide), e73]
        refine w_aload_n (pc2 := 111) C dX4_openGroup_110 rfl rfl ?_
        refine w_dup (pc2 := 112) C dX4_openGroup_111 rfl rfl ?_
        refine z_getI (pc2 := 115) C dX4_openGroup_112 fl_X4_57 (by first | exact hy.k _ | assumption) rfl ?_
        refine w_iconst (pc2 := 116) (v := iI 1) C dX4_openGroup_115 (by decide) rfl ?_
        refine z_iadd (pc2 := 117) C dX4_openGroup_116 rfl ?_
        refine z_putI (pc2 := 120) C dX4_openGroup_117 fl_X4_57 (by first | exact hy.k _ | assumption) (by rfl) (by rfl) rfl ?_
        -- at 120: .return_
        rw [e33, e8]
        have r7 : ∀ i, J8 7 i = if i = o then ((nb s t p2 + 1 : Nat) : Int) else J 7 i := fun i => by
          rw [eJ8, up2_row (by decide), eJ7, up2_row (by decide), eJ6, up2_row (by decide), eJ5]
          by_cases z : i = o
          · rw [z, up2_s, if_pos rfl]
          · rw [up2_n _ _ _ _ (by omega), if_neg z, c0 7 (by decide)]
        have r8 : ∀ i, J8 8 i = if i = o then v else J 8 i := fun i => by
          rw [eJ8, up2_row (by decide), eJ7, up2_row (by decide), eJ6]
          by_cases z : i = o
          · rw [z, up2_s, if_pos rfl]
          · rw [up2_n _ _ _ _ (by omega), if_neg z, eJ5, up2_row (by decide), c0 8 (by decide)]
        have r9 : ∀ i, J8 9 i = if i = o then J 3 11 else J 9 i := fun i => by
          rw [eJ8, up2_row (by decide), eJ7]
          by_cases z : i = o
          · rw [z, up2_s, if_pos rfl]
          · rw [up2_n _ _ _ _ (by omega), if_neg z, eJ6, up2_row (by decide), eJ5, up2_row (by decide), c0 9 (by decide)]
        have r10 : ∀ i, J8 10 i = if i = o then J 3 12 else J 10 i := fun i => by
          rw [eJ8]
          by_cases z : i = o
          · rw [z, up2_s, if_pos rfl]
          · rw [up2_n _ _ _ _ (by omega), if_neg z, eJ7, up2_row (by decide), eJ6, up2_row (by decide), eJ5, up2_row (by decide), c0 10 (by decide)]
        have rr : ∀ a, a ≠ 3 → a ≠ 7 → a ≠ 8 → a ≠ 9 → a ≠ 10 → J8 a = J a := fun a a3 a7 a8 a9 a10 => by
          rw [eJ8, up2_row a10, eJ7, up2_row a9, eJ6, up2_row a8, eJ5, up2_row a7]; exact c0 a a3
        have s3 : ∀ b, b ≠ 8 → up2 J8 3 8 ((o : Int) + 1) 3 b = J4 3 b := fun b hb => by rw [up2_n _ _ _ _ (by omega), e33]
        exact w_ret C dX4_openGroup_120 (by decide) (by decide) (by
          rw [← hpost]
          refine ⟨_, DetI rfl rfl, by rw [s3 1 (by decide)]; exact c1, fun f h => (by rw [k5] at h; cases h), fun w e h => ?_⟩
          rw [k5] at h
          injection h with h
          injection h with a1 a2
          subst a1 a2
          refine ⟨by rw [s3 1 (by decide)]; exact g1, by rw [s3 2 (by decide)]; exact e2, by rw [s3 9 (by decide)]; exact e9, by rw [up2_s]; omega, by rw [s3 11 (by decide)]; exact cb 11 (by omega), by rw [s3 12 (by decide)]; exact cb 12 (by omega), fun a a3 a7 a8 a9 a10 => by rw [up2_row a3]; exact rr a a3 a7 a8 a9 a10, fun i hi => ?_, ?_, ?_, ?_, ?_⟩
          · rw [up2_row (by decide), up2_row (by decide), up2_row (by decide), up2_row (by decide), r7, r8, r9, r10, if_neg hi, if_neg hi, if_neg hi, if_neg hi]
            exact ⟨rfl, rfl, rfl, rfl⟩
          · rw [up2_row (by decide), r7, if_pos rfl]
          · rw [up2_row (by decide), r8, if_pos rfl]
          · rw [up2_row (by decide), r9, if_pos rfl]
          · rw [up2_row (by decide), r10, if_pos rfl])
  refine w_aload_n (pc2 := 1) C dX4_openGroup_0 rfl rfl ?_
  refine w_iconst (pc2 := 2) (v := iI 1) C dX4_openGroup_1 (by decide) rfl ?_
  refine w_bipush (pc2 := 4) (v := iI 9) C dX4_openGroup_2 (by decide) rfl ?_
  -- at 4: .invokevirtual 86
  refine w_gV (pc2 := 7)  C dX4_openGroup_4 mb_X4_86 mv_X4_readNumber (s_X4_readNumber hy (lo := 1) (hi := 9) (by omega) (by omega) hT hp hpt (by omega)) (by first | exact hy.k _ | assumption) rfl (by decide) rfl rfl (Nat.le_of_ble_eq_true rfl) ⟨by decide, by decide⟩ ⟨rfl, rfl⟩ ⟨by decide, by decide⟩ rfl ?_
  rintro r2 n2 K2 I2 L2 R2 ⟨J2, hD, w0, wb, w9, w10, w1, w2⟩
  obtain ⟨d1, d2, d3, d4, d5, d6⟩ := hD
  replace d2 := d2.symm
  replace d3 := d3.symm
  replace d5 := d5.symm
  replace d6 := d6.symm
  subst d1
  subst d2
  subst d3
  subst d4
  subst d5
  subst d6
  have hb1 := fk1_bd (J := J) (s := s) (t := t) (p := p) (lo := 1) (hi := 9) (by omega)
  rw [← w1] at hb1
  rw [fk1_0 hf] at w1
  rw [fp1_0 hf] at w2
  have hT2 : Txt J2 s t := hT.rows (w0 1 (by decide)) (w0 2 (by decide))
  generalize hv : nvF s (nb s t p) (dgN s (nb s t p)) = v
  refine w_istore_n (pc2 := 8) C dX4_openGroup_7 rfl (by decide) rfl rfl ?_
  try dsimp only [List.set]
  refine w_aload_n (pc2 := 9) C dX4_openGroup_8 rfl rfl ?_
  refine w_bipush (pc2 := 11) (v := iI 120) C dX4_openGroup_9 (by decide) rfl ?_
  -- at 11: .invokevirtual 90
  refine w_cVv (pc2 := 14)  C dX4_openGroup_11 mb_X4_90 mv_X4_expect (s_X4_expect hy (x := 120) (by omega) hT2 w9 hde (by omega)) (by first | exact hy.k _ | assumption) rfl (by decide) rfl rfl (Nat.le_of_ble_eq_true rfl) ⟨by decide, by decide⟩ ⟨rfl, rfl⟩ ⟨by decide, by decide⟩ rfl ?_
  have hJ3 : ∃ J3, J3 = exJ J2 s t (nb s t p + dgN s (nb s t p)) 120 := ⟨_, rfl⟩
  obtain ⟨J3, eJ⟩ := hJ3
  rw [← eJ]
  have c0 : ∀ a, a ≠ 3 → J3 a = J a := fun a ha => by rw [eJ, exJ_row ha]; exact w0 a ha
  have cb : ∀ b, b = 8 ∨ b = 11 ∨ b = 12 → J3 3 b = J 3 b := fun b hb => by rw [eJ, exJ_b (by omega) (by omega) (by omega)]; exact wb b (by omega) (by omega) (by omega) (by omega)
  have c1 : 0 ≤ J3 3 1 ∧ J3 3 1 ≤ 4 := by rw [eJ]; exact exJ_bd hb1
  obtain ⟨p3, hp3, c9⟩ : ∃ p2 : Nat, p2 ≤ t ∧ J3 3 9 = p2 := by rw [eJ]; exact exJ_9 h2 (by decide) hde
  have hT3 : Txt J3 s t := hT.rows (c0 1 (by decide)) (c0 2 (by decide))
  have hq3 := nb_le (s := s) hp3
  have hsb := h2.bd (nb s t p3)
  -- what is known of the FAULT so far
  have hbad : ¬ J3 3 1 = 0 → ∃ f : Flt, opn s t p o = .inl f ∧ J3 3 1 = f.1 ∧ J3 3 2 = f.2 := by
    intro q
    rcases hn : num s t p 1 9 with f | ⟨u, q1, e⟩
    · rw [hn] at w1 w2
      have w1 : J2 3 1 = f.1 := w1
      have w2 : J2 3 2 = f.2 := w2
      have hz : ¬ J2 3 1 = 0 := by have := num_k hn; omega
      exact ⟨f, by unfold opn; rw [hn], by rw [eJ, (exJ_bad hz).1, w1], by rw [eJ, (exJ_bad hz).2, w2]⟩
    · rw [hn] at w1 w2
      have w1 : J2 3 1 = 0 := w1
      have ok := num_ok hn
      have ee : e = nb s t p + dgN s (nb s t p) := ok.2.2.2.1
      by_cases z : s (nb s t e) = 120
      · rw [ee] at z
        rw [eJ, (exJ_yes z).1] at q
        exact absurd w1 q
      · refine ⟨(1, nb s t e), by unfold opn; rw [hn]; show (if _ then _ else _) = _; rw [if_neg z], ?_, ?_⟩
        · rw [ee] at z; rw [eJ, (exJ_no w1 z).1]
        · rw [ee] at z; rw [eJ, (exJ_no w1 z).2, ee]
  have hgood : J3 3 1 = 0 → J3 3 2 = J 3 2 ∧ ∃ e : Nat, num s t p 1 9 = .inr (v, nb s t p, e) ∧ s (nb s t e) = 120 ∧ p3 = nb s t e + 1 := by
    intro q
    rcases hn : num s t p 1 9 with f | ⟨u, q1, e⟩
    · rw [hn] at w1
      have w1 : J2 3 1 = f.1 := w1
      have hz : ¬ J2 3 1 = 0 := by have := num_k hn; omega
      rw [eJ, (exJ_bad hz).1] at q
      exact absurd q hz
    · rw [hn] at w1 w2
      have w1 : J2 3 1 = 0 := w1
      have w2 : J2 3 2 = J 3 2 := w2
      obtain ⟨o1, o2, o3, o4, o5, o6⟩ := num_ok hn
      have z : s (nb s t (nb s t p + dgN s (nb s t p))) = 120 := by
        rcases Decidable.em (s (nb s t (nb s t p + dgN s (nb s t p))) = 120) with z | z
        · exact z
        · rw [eJ, (exJ_no w1 z).1] at q; exact absurd q (by decide)
      refine ⟨by rw [eJ, (exJ_yes z).2.1, w2], e, by rw [o5, o3, hv], by rw [o4]; exact z, ?_⟩
      have := (exJ_yes (J := J2) z).2.2
      rw [← eJ, c9] at this
      rw [o4]
      omega
  have hopn : J3 3 1 = 0 → opn s t p o = (if s (nb s t p3) = 123 then (if 4 ≤ o then .inl (3, nb s t p3) else .inr (v, nb s t p3 + 1)) else .inl (1, nb s t p3)) := fun q => by
    obtain ⟨-, e, k1, k2, k3⟩ := hgood q
    unfold opn
    rw [k1]
    show (if _ then _ else _) = _
    rw [if_pos k2, ← k3]
  refine w_aload_n (pc2 := 15) C dX4_openGroup_14 rfl rfl ?_
  -- at 15: .invokevirtual 39
  refine w_cVi (pc2 := 18)  C dX4_openGroup_15 mb_X4_39 mv_X4_nextSign (s_X4_nextSign hy hT3 c9 hp3) (by first | exact hy.k _ | assumption) rfl (by decide) rfl rfl (Nat.le_of_ble_eq_true rfl) ⟨by decide, by decide⟩ ⟨rfl, rfl⟩ ⟨by decide, by decide⟩ rfl ?_
  have b1 : ∀ b, b ≠ 9 → up2 J3 3 9 (nb s t p3 : Int) 3 b = J3 3 b := fun b hb => up2_n _ _ _ _ (by omega)
  have bj0 : ∀ a, a ≠ 3 → up2 J3 3 9 (nb s t p3 : Int) a = J a := fun a ha => by rw [up2_row ha]; exact c0 a ha
  have bjb : ∀ b, b = 8 ∨ b = 11 ∨ b = 12 → up2 J3 3 9 (nb s t p3 : Int) 3 b = J 3 b := fun b hb => by rw [b1 b (by omega)]; exact cb b hb
  have hnn := nb_nb h2 p3
  have stop : (¬ (s (nb s t p3) = 123 ∧ 4 ≤ o)) → wp Γ 0 0 (QQ Γ post) 40 [some (.ref 3), some (.int (iI v))] [] n K (zw (up2 J3 3 9 (nb s t p3))) L R := by
    intro hc
    refine fin _ (nb s t p3) v bj0 bjb hq3 (up2_s _ _ _ _) (by rw [b1 1 (by decide)]; exact c1) (fun q => ?_) (fun q => ?_)
    · rw [b1 1 (by decide)] at q ⊢
      rw [b1 2 (by decide)]
      exact hbad q
    · rw [b1 1 (by decide)] at q
      rw [b1 2 (by decide), hnn]
      refine ⟨(hgood q).1, fun z => ?_, fun z => ?_⟩
      · have ho4 : ¬ 4 ≤ o := fun y => hc ⟨z, y⟩
        exact ⟨by omega, by rw [hopn q, if_pos z, if_neg ho4]⟩
      · rw [hopn q, if_neg z]
  refine w_bipush (pc2 := 20) (v := iI 123) C dX4_openGroup_18 (by decide) rfl ?_
  -- at 20: .if_icmp .ne 20
  refine z_icmp_ne (pc2 := 23) (tgt := 40) C dX4_openGroup_20 (by decide) rfl (by omega) (by omega) (fun g1 => ?_) (fun g1 => ?_)
  · exact stop (fun q => g1 q.1)
  · skip
    refine w_aload_n (pc2 := 24) C dX4_openGroup_23 rfl rfl ?_
    refine z_getI (pc2 := 27) C dX4_openGroup_24 fl_X4_57 (by first | exact hy.k _ | assumption) rfl ?_
    refine w_iconst (pc2 := 28) (v := iI 4) C dX4_openGroup_27 (by decide) rfl ?_
    -- at 28: .if_icmp .lt 12
    rw [bjb 8 (by omega), ho]
    refine z_icmp_lt (pc2 := 31) (tgt := 40) C dX4_openGroup_28 (by decide) rfl (by omega) (by omega) (fun g2 => ?_) (fun g2 => ?_)
    · exact stop (fun q => by omega)
    · skip
      refine w_aload_n (pc2 := 32) C dX4_openGroup_31 rfl rfl ?_
      refine w_iconst (pc2 := 33) (v := iI 3) C dX4_openGroup_32 (by decide) rfl ?_
      refine w_aload_n (pc2 := 34) C dX4_openGroup_33 rfl rfl ?_
      refine z_getI (pc2 := 37) C dX4_openGroup_34 fl_X4_61 (by first | exact hy.k _ | assumption) rfl ?_
      -- at 37: .invokevirtual 64
      rw [up2_s]
      refine w_cVv (pc2 := 40)  C dX4_openGroup_37 mb_X4_64 mv_X4_fail (s_X4_fail hy (by rw [b1 1 (by decide)]; omega)) (by first | exact hy.k _ | assumption) rfl (by decide) rfl rfl (Nat.le_of_ble_eq_true rfl) ⟨by decide, by decide⟩ ⟨rfl, rfl⟩ ⟨by decide, by decide⟩ rfl ?_
      have m1 : 0 ≤ flJ (up2 J3 3 9 (nb s t p3 : Int)) 3 (nb s t p3) 3 1 ∧ flJ (up2 J3 3 9 (nb s t p3 : Int)) 3 (nb s t p3) 3 1 ≤ 4 := by
        rw [flJ_1, b1 1 (by decide)]
        split <;> omega
      refine fin _ (nb s t p3) v (fun a ha => by rw [flJ_row ha]; exact bj0 a ha) (fun b hb => by rw [flJ_f (by omega) (by omega)]; exact bjb b hb) hq3 (by rw [flJ_f (by decide) (by decide), up2_s]) m1 (fun q => ?_) (fun q => ?_)
      · rw [flJ_1, flJ_2, b1 1 (by decide), b1 2 (by decide)]
        by_cases z : J3 3 1 = 0
        · rw [if_pos z, if_pos z]
          exact ⟨(3, nb s t p3), by rw [hopn z, if_pos g1, if_pos (by omega)], rfl, rfl⟩
        · rw [if_neg z, if_neg z]
          exact hbad z
      · rw [flJ_1, b1 1 (by decide)] at q
        by_cases z : J3 3 1 = 0
        · rw [if_pos z] at q; exact absurd q (by decide)
        · rw [if_neg z] at q; exact absurd q z
end GROUP
