/-! ===== the reference: THE SETTING ===== -/
def LCx (tk bl : Nat → Int) (ρ : Int) (k l r : Nat) : Int := if 0 < r ∧ tk k = tk (r - 1) ∧ bl (r - 1) ≤ bl k then FAR else mvF tk bl ρ l k
def RCx (tk bl : Nat → Int) (ρ : Int) (k l r : Nat) : Int := if 0 < l ∧ tk (l - 1) = tk k ∧ bl k ≤ bl (l - 1) then FAR else mvF tk bl ρ r k
def cst (tk bl : Nat → Int) (ρ π : Int) (k l r ch : Nat) : Int := if ch = 2 then π else if ch = 0 then LCx tk bl ρ k l r else RCx tk bl ρ k l r
def bhd (c : Nat) (LC RC : Nat → Nat → Nat → Int) (π : Int) (k l r ch : Nat) : Int := opt c LC RC π (c - (k + 1)) (if ch = 0 then k + 1 else l) (if ch = 1 then k + 1 else r)
/-- the best of the first choices -/
def bcF (v w : Nat → Int) : Nat → Int
  | 0 => FAR
  | i + 1 => bst1 (bcF v w i) (v i) (w i)
theorem LCx_bd {tk bl : Nat → Int} {ρ : Int} {l r k : Nat} (h : ∀ i, i = k ∨ i + 1 = l → 0 ≤ bl i ∧ bl i < 24) : 0 ≤ LCx tk bl ρ k l r ∧ (LCx tk bl ρ k l r = FAR ∨ LCx tk bl ρ k l r < 24) := by
  have := mvF_bd (tk := tk) (ρ := ρ) h
  unfold LCx
  split
  · unfold FAR; omega
  · exact this
theorem RCx_bd {tk bl : Nat → Int} {ρ : Int} {l r k : Nat} (h : ∀ i, i = k ∨ i + 1 = r → 0 ≤ bl i ∧ bl i < 24) : 0 ≤ RCx tk bl ρ k l r ∧ (RCx tk bl ρ k l r = FAR ∨ RCx tk bl ρ k l r < 24) := by
  have := mvF_bd (tk := tk) (ρ := ρ) h
  unfold RCx
  split
  · unfold FAR; omega
  · exact this
theorem bst1_bd {b v w : Int} (h1 : 0 ≤ b ∧ b ≤ FAR) (h2 : 0 ≤ v) (h3 : 0 ≤ w) : 0 ≤ bst1 b v w ∧ bst1 b v w ≤ FAR := by
  unfold bst1
  split <;> omega
/-- all costs lie between 0 and FAR -/
theorem opt_far {c : Nat} {LC RC : Nat → Nat → Nat → Int} {π : Int} (hL : okC c LC) (hR : okC c RC) (hp : 0 ≤ π) : ∀ d l r, d ≤ c → l ≤ c - d → r ≤ c - d → 0 ≤ opt c LC RC π d l r ∧ opt c LC RC π d l r ≤ FAR
  | 0, l, r, _, _, _ => by simp [opt, FAR]
  | d + 1, l, r, hd, hl, hr => by
    have i1 := opt_far hL hR hp d (c - (d + 1) + 1) r (by omega) (by omega) (by omega)
    have i2 := opt_far hL hR hp d l (c - (d + 1) + 1) (by omega) (by omega) (by omega)
    have i3 := opt_far hL hR hp d l r (by omega) (by omega) (by omega)
    have g1 := hL (c - (d + 1)) l r (by omega) hl hr
    have g2 := hR (c - (d + 1)) l r (by omega) hl hr
    simp only [opt, bst3]
    exact bst1_bd (bst1_bd (bst1_bd (by unfold FAR; omega) g1.1 i1.1) g2.1 i2.1) hp i3.1
def Lst (J : wJn) (c : Nat) (LC RC : Nat → Nat → Nat → Int) (π : Int) (k0 : Nat) : Prop := ∀ k l r, k0 ≤ k → k ≤ c → l ≤ k → r ≤ k → J 45 ((k * 101 + l) * 101 + r) = opt c LC RC π (c - k) l r
theorem bcF_3 {c : Nat} {tk bl : Nat → Int} {ρ π : Int} {k l r : Nat} (hk : k < c) : bcF (cst tk bl ρ π k l r) (bhd c (LCx tk bl ρ) (RCx tk bl ρ) π k l r) 3 = opt c (LCx tk bl ρ) (RCx tk bl ρ) π (c - k) l r := by
  have e : c - k = (c - (k + 1)) + 1 := by omega
  have e2 : c - (c - (k + 1) + 1) = k := by omega
  rw [e]
  simp only [opt, e2, bst3, bcF]
  rfl
theorem okLx {J : wJn} {c : Nat} (ρ : Int) (hm : MuR J c) : okC c (LCx (tR J) (bR J) ρ) := fun k l r hk hl hr => LCx_bd (fun i hi => by have := hm.2.2 i (by omega); exact ⟨this.2.2.1, this.2.2.2⟩)
theorem okRx {J : wJn} {c : Nat} (ρ : Int) (hm : MuR J c) : okC c (RCx (tR J) (bR J) ρ) := fun k l r hk hl hr => RCx_bd (fun i hi => by have := hm.2.2 i (by omega); exact ⟨this.2.2.1, this.2.2.2⟩)
theorem MuR.row {J J2 : wJn} {c : Nat} (h : MuR J c) (e : J2 35 = J 35) : MuR J2 c := by unfold MuR; rw [e]; exact h
theorem pl_lt {k l r : Nat} (h1 : k ≤ 100) (h2 : l ≤ 100) (h3 : r ≤ 100) : (k * 101 + l) * 101 + r < 1030301 := by omega
theorem pl_inj {k l r k2 l2 r2 : Nat} (h1 : l ≤ 100) (h2 : l2 ≤ 100) (h3 : r ≤ 100) (h4 : r2 ≤ 100) (h : (k * 101 + l) * 101 + r = (k2 * 101 + l2) * 101 + r2) : k = k2 ∧ l = l2 ∧ r = r2 := by
  obtain ⟨a, b⟩ := sp_inj (l := k * 101 + l) (t := k2 * 101 + l2) h3 h4 h
  obtain ⟨x, y⟩ := sp_inj h1 h2 a
  exact ⟨x, y, b⟩
section WEIGH
variable {n : Nat} {K : wKd} {J : wJn} {L : wLn} {R : wRf}
theorem s_X11_costOf (hy : Ly K R) {c k l r ch : Nat} {ρ π : Int} (hm : MuR J c) (hk : k < c) (hl : l ≤ k) (hr : r ≤ k) (hch : ch ≤ 2) (h1 : 1 ≤ ρ ∧ ρ ≤ 24) : S_X11_costOf [.ref 34, .int (iI k), .int (iI l), .int (iI r), .int (iI ch), .int (iI ρ), .int (iI π)] n K (zw J) L R (Det (some (.int (iI (cst (tR J) (bR J) ρ π k l r ch)))) n K (zw J) L R) := by
  have hc2 := hm.2.1
  refine Sp_intro [some (.ref 34), some (.int (iI k)), some (.int (iI l)), some (.int (iI r)), some (.int (iI ch)), some (.int (iI ρ)), some (.int (iI π))] rfl rfl (Nat.le_of_ble_eq_true rfl) rfl ?_
  intro Γ C
  replace C : C_X11_costOf Γ := C
  refine w_iload (pc2 := 2) C dX11_costOf_0 rfl rfl ?_
  refine w_iconst (pc2 := 3) (v := iI 2) C dX11_costOf_2 (by decide) rfl ?_
  -- at 3: .if_icmp .ne 6
  refine z_icmp_ne (pc2 := 6) (tgt := 9) C dX11_costOf_3 (by decide) rfl (by omega) (by omega) (fun g1 => ?_) (fun g1 => ?_)
  · skip
    refine w_iload (pc2 := 11) C dX11_costOf_9 rfl rfl ?_
    -- at 11: .ifCond .ne 28
    refine z_if_ne (pc2 := 14) (tgt := 39) C dX11_costOf_11 (by decide) rfl (by omega) (fun g2 => ?_) (fun g2 => ?_)
    · have e : ch = 1 := by omega
      subst e
      have hcst : cst (tR J) (bR J) ρ π k l r 1 = RCx (tR J) (bR J) ρ k l r := rfl
      refine w_aload_n (pc2 := 40) C dX11_costOf_39 rfl rfl ?_
      refine w_iload_n (pc2 := 41) C dX11_costOf_40 rfl rfl ?_
      refine w_iload_n (pc2 := 42) C dX11_costOf_41 rfl rfl ?_
      refine w_iconst (pc2 := 43) (v := iI 1) C dX11_costOf_42 (by decide) rfl ?_
      refine z_iadd (pc2 := 44) C dX11_costOf_43 rfl ?_
      -- at 44: .invokevirtual 121
      rw [show ((k : Int) + 1) = ((k + 1 : Nat) : Int) by omega]
      refine w_cVi (pc2 := 47)  C dX11_costOf_44 mb_X11_121 mv_X11_isCrossed (s_X11_isCrossed hy hm (show l ≤ c by omega) (show k + 1 ≤ c by omega)) (by first | exact hy.k _ | assumption) rfl (by decide) rfl rfl (Nat.le_of_ble_eq_true rfl) ⟨by decide, by decide⟩ ⟨rfl, rfl⟩ ⟨by decide, by decide⟩ rfl ?_
      -- at 47: .ifCond .eq 8
      refine z_if_eq (pc2 := 50) (tgt := 55) C dX11_costOf_47 (by decide) rfl (by unfold crR; split <;> omega) (fun g3 => ?_) (fun g3 => ?_)
      · have g4 : ¬ (0 < l ∧ tR J (l - 1) = tR J k ∧ bR J k ≤ bR J (l - 1)) := fun q => by
          unfold crR at g3
          rw [if_pos ⟨q.1, by omega, q.2⟩] at g3
          exact absurd g3 (by decide)
        refine w_aload_n (pc2 := 56) C dX11_costOf_55 rfl rfl ?_
        refine w_iload_n (pc2 := 57) C dX11_costOf_56 rfl rfl ?_
        refine w_iload_n (pc2 := 58) C dX11_costOf_57 rfl rfl ?_
        refine w_iload (pc2 := 60) C dX11_costOf_58 rfl rfl ?_
        -- at 60: .invokevirtual 125
        refine w_cVi (pc2 := 63)  C dX11_costOf_60 mb_X11_125 mv_X11_moves (s_X11_moves hy hm (show r ≤ c by omega) hk h1) (by first | exact hy.k _ | assumption) rfl (by decide) rfl rfl (Nat.le_of_ble_eq_true rfl) ⟨by decide, by decide⟩ ⟨rfl, rfl⟩ ⟨by decide, by decide⟩ rfl ?_
        exact w_iret C dX11_costOf_63 (by decide) (by decide) (DetI (by rw [hcst, RCx, if_neg g4]) rfl)
      · have g4 : 0 < l ∧ tR J (l - 1) = tR J k ∧ bR J k ≤ bR J (l - 1) := by
          rcases Decidable.em (0 < l ∧ tR J (l - 1) = tR J k ∧ bR J k ≤ bR J (l - 1)) with q | q
          · exact q
          · unfold crR at g3
            rw [if_neg (fun z => q ⟨z.1, z.2.2⟩)] at g3
            exact absurd rfl g3
        refine w_ldc (pc2 := 52) C dX11_costOf_50 kc_X11_120 rfl ?_
        refine w_goto (tgt := 63) C dX11_costOf_52 (by decide) ?_
        -- at 63: .ireturn
        exact w_iret C dX11_costOf_63 (by decide) (by decide) (DetI (by rw [hcst, RCx, if_pos g4]; rfl) rfl)
    · have e : ch = 0 := by omega
      subst e
      have hcst : cst (tR J) (bR J) ρ π k l r 0 = LCx (tR J) (bR J) ρ k l r := rfl
      refine w_aload_n (pc2 := 15) C dX11_costOf_14 rfl rfl ?_
      refine w_iload_n (pc2 := 16) C dX11_costOf_15 rfl rfl ?_
      refine w_iconst (pc2 := 17) (v := iI 1) C dX11_costOf_16 (by decide) rfl ?_
      refine z_iadd (pc2 := 18) C dX11_costOf_17 rfl ?_
      refine w_iload_n (pc2 := 19) C dX11_costOf_18 rfl rfl ?_
      -- at 19: .invokevirtual 121
      rw [show ((k : Int) + 1) = ((k + 1 : Nat) : Int) by omega]
      refine w_cVi (pc2 := 22)  C dX11_costOf_19 mb_X11_121 mv_X11_isCrossed (s_X11_isCrossed hy hm (show k + 1 ≤ c by omega) (show r ≤ c by omega)) (by first | exact hy.k _ | assumption) rfl (by decide) rfl rfl (Nat.le_of_ble_eq_true rfl) ⟨by decide, by decide⟩ ⟨rfl, rfl⟩ ⟨by decide, by decide⟩ rfl ?_
      -- at 22: .ifCond .eq 8
      refine z_if_eq (pc2 := 25) (tgt := 30) C dX11_costOf_22 (by decide) rfl (by unfold crR; split <;> omega) (fun g3 => ?_) (fun g3 => ?_)
      · have g4 : ¬ (0 < r ∧ tR J k = tR J (r - 1) ∧ bR J (r - 1) ≤ bR J k) := fun q => by
          unfold crR at g3
          rw [if_pos ⟨by omega, q.1, q.2⟩] at g3
          exact absurd g3 (by decide)
        refine w_aload_n (pc2 := 31) C dX11_costOf_30 rfl rfl ?_
        refine w_iload_n (pc2 := 32) C dX11_costOf_31 rfl rfl ?_
        refine w_iload_n (pc2 := 33) C dX11_costOf_32 rfl rfl ?_
        refine w_iload (pc2 := 35) C dX11_costOf_33 rfl rfl ?_
        -- at 35: .invokevirtual 125
        refine w_cVi (pc2 := 38)  C dX11_costOf_35 mb_X11_125 mv_X11_moves (s_X11_moves hy hm (show l ≤ c by omega) hk h1) (by first | exact hy.k _ | assumption) rfl (by decide) rfl rfl (Nat.le_of_ble_eq_true rfl) ⟨by decide, by decide⟩ ⟨rfl, rfl⟩ ⟨by decide, by decide⟩ rfl ?_
        exact w_iret C dX11_costOf_38 (by decide) (by decide) (DetI (by rw [hcst, LCx, if_neg g4]) rfl)
      · have g4 : 0 < r ∧ tR J k = tR J (r - 1) ∧ bR J (r - 1) ≤ bR J k := by
          rcases Decidable.em (0 < r ∧ tR J k = tR J (r - 1) ∧ bR J (r - 1) ≤ bR J k) with q | q
          · exact q
          · unfold crR at g3
            rw [if_neg (fun z => q ⟨z.2.1, z.2.2⟩)] at g3
            exact absurd rfl g3
        refine w_ldc (pc2 := 27) C dX11_costOf_25 kc_X11_120 rfl ?_
        refine w_goto (tgt := 38) C dX11_costOf_27 (by decide) ?_
        -- at 38: .ireturn
        exact w_iret C dX11_costOf_38 (by decide) (by decide) (DetI (by rw [hcst, LCx, if_pos g4]; rfl) rfl)
  · have e : ch = 2 := by omega
    subst e
    refine w_iload (pc2 := 8) C dX11_costOf_6 rfl rfl ?_
    -- at 8: .ireturn
    exact w_iret C dX11_costOf_8 (by decide) (by decide) (DetI rfl rfl)
theorem s_X11_behind (hy : Ly K R) {c k l r ch : Nat} {π : Int} {LC RC : Nat → Nat → Nat → Int} (hL : Lst J c LC RC π (k + 1)) (hc : c ≤ 100) (hk : k < c) (hl : l ≤ k) (hr : r ≤ k) (hch : ch ≤ 2) : S_X11_behind [.ref 34, .int (iI k), .int (iI l), .int (iI r), .int (iI ch)] n K (zw J) L R (Det (some (.int (iI (bhd c LC RC π k l r ch)))) n K (zw J) L R) := by
  refine Sp_intro [some (.ref 34), some (.int (iI k)), some (.int (iI l)), some (.int (iI r)), some (.int (iI ch))] rfl rfl (Nat.le_of_ble_eq_true rfl) rfl ?_
  intro Γ C
  replace C : C_X11_behind Γ := C
  have fin : ∀ a b : Nat, a = (if ch = 0 then k + 1 else l) → b = (if ch = 1 then k + 1 else r) → wp Γ 0 0 (QQ Γ (Det (some (.int (iI (bhd c LC RC π k l r ch)))) n K (zw J) L R)) 33 [some (.ref 34), some (.int (iI k)), some (.int (iI l)), some (.int (iI r)), some (.int (iI ch))] [.int (iI b), .int (iI a), .int (iI ((k : Int) + 1)), .ref 34, .ref 45] n K (zw J) L R := by
    intro a b ha hb
    have ha2 : a ≤ k + 1 := by rw [ha]; split <;> omega
    have hb2 : b ≤ k + 1 := by rw [hb]; split <;> omega
    have hp := pl_lt (k := k + 1) (l := a) (r := b) (by omega) (by omega) (by omega)
    refine w_cVi (pc2 := 36)  C dX11_behind_33 mb_X11_129 mv_X11_place (s_X11_place) (by first | exact hy.k _ | assumption) rfl (by decide) rfl rfl (Nat.le_of_ble_eq_true rfl) ⟨by decide, by decide⟩ ⟨rfl, rfl⟩ ⟨by decide, by decide⟩ rfl ?_
    -- at 36: .iaload
    refine z_iald (pc2 := 37) (j := ((k + 1) * 101 + a) * 101 + b) C dX11_behind_36 (by first | exact hy.k _ | assumption) (by omega) (by omega) (by decide) rfl ?_
    rw [hL (k + 1) a b (Nat.le_refl _) (by omega) ha2 hb2]
    exact w_iret C dX11_behind_37 (by decide) (by decide) (DetI (by unfold bhd; rw [ha, hb]) rfl)
  have fin2 : ∀ a : Nat, a = (if ch = 0 then k + 1 else l) → wp Γ 0 0 (QQ Γ (Det (some (.int (iI (bhd c LC RC π k l r ch)))) n K (zw J) L R)) 20 [some (.ref 34), some (.int (iI k)), some (.int (iI l)), some (.int (iI r)), some (.int (iI ch))] [.int (iI a), .int (iI ((k : Int) + 1)), .ref 34, .ref 45] n K (zw J) L R := by
    intro a ha
    refine w_iload (pc2 := 22) C dX11_behind_20 rfl rfl ?_
    refine w_iconst (pc2 := 23) (v := iI 1) C dX11_behind_22 (by decide) rfl ?_
    -- at 23: .if_icmp .ne 9
    refine z_icmp_ne (pc2 := 26) (tgt := 32) C dX11_behind_23 (by decide) rfl (by omega) (by omega) (fun g1 => ?_) (fun g1 => ?_)
    · skip
      refine w_iload_n (pc2 := 33) C dX11_behind_32 rfl rfl ?_
      -- at 33: .invokevirtual 129
      exact fin a r ha (by rw [if_neg (by omega)])
    · skip
      refine w_iload_n (pc2 := 27) C dX11_behind_26 rfl rfl ?_
      refine w_iconst (pc2 := 28) (v := iI 1) C dX11_behind_27 (by decide) rfl ?_
      refine z_iadd (pc2 := 29) C dX11_behind_28 rfl ?_
      refine w_goto (tgt := 33) C dX11_behind_29 (by decide) ?_
      -- at 33: .invokevirtual 129
      rw [show ((k : Int) + 1) = ((k + 1 : Nat) : Int) by omega]
      exact fin a (k + 1) ha (by rw [if_pos (by omega)])
  refine w_aload_n (pc2 := 1) C dX11_behind_0 rfl rfl ?_
  refine w_getR (pc2 := 4) C dX11_behind_1 fl_X11_43 (by first | exact hy.k _ | assumption) (by first | exact hy.r _ _ | assumption) rfl ?_
  refine w_aload_n (pc2 := 5) C dX11_behind_4 rfl rfl ?_
  refine w_iload_n (pc2 := 6) C dX11_behind_5 rfl rfl ?_
  refine w_iconst (pc2 := 7) (v := iI 1) C dX11_behind_6 (by decide) rfl ?_
  refine z_iadd (pc2 := 8) C dX11_behind_7 rfl ?_
  refine w_iload (pc2 := 10) C dX11_behind_8 rfl rfl ?_
  -- at 10: .ifCond .ne 9
  refine z_if_ne (pc2 := 13) (tgt := 19) C dX11_behind_10 (by decide) rfl (by omega) (fun g1 => ?_) (fun g1 => ?_)
  · skip
    refine w_iload_n (pc2 := 20) C dX11_behind_19 rfl rfl ?_
    -- at 20: .iload 4
    exact fin2 l (by rw [if_neg (by omega)])
  · skip
    refine w_iload_n (pc2 := 14) C dX11_behind_13 rfl rfl ?_
    refine w_iconst (pc2 := 15) (v := iI 1) C dX11_behind_14 (by decide) rfl ?_
    refine z_iadd (pc2 := 16) C dX11_behind_15 rfl ?_
    refine w_goto (tgt := 20) C dX11_behind_16 (by decide) ?_
    -- at 20: .iload 4
    exact fin2 (k + 1) (by rw [if_pos (by omega)])
theorem s_X11_weighs (hy : Ly K R) {c : Nat} {ρ π : Int} (hm : MuR J c) (h1 : 1 ≤ ρ ∧ ρ ≤ 24) (h2 : 0 ≤ π ∧ π ≤ FAR) : S_X11_weighs [.ref 34, .int (iI ρ), .int (iI π)] n K (zw J) L R (fun r2 n2 K2 I2 L2 R2 => ∃ J2 : wJn, Det (some (.int (iI (opt c (LCx (tR J) (bR J) ρ) (RCx (tR J) (bR J) ρ) π c 0 0)))) n K (zw J2) L R r2 n2 K2 I2 L2 R2 ∧ (∀ a, a ≠ 45 → J2 a = J a) ∧ Lst J2 c (LCx (tR J) (bR J) ρ) (RCx (tR J) (bR J) ρ) π 0) := by
  have hc2 := hm.2.1
  have okl := okLx ρ hm
  have okr := okRx ρ hm
  have h2' : π ≤ 100000000 := h2.2
  refine Sp_intro [some (.ref 34), some (.int (iI ρ)), some (.int (iI π)), none, none, none, none, none, none, none] rfl rfl (Nat.le_of_ble_eq_true rfl) rfl ?_
  intro Γ C
  replace C : C_X11_weighs Γ := C
  generalize hpost : (fun (r2 : Option Value) (n2 : Nat) (K2 : wKd) (I2 : wIn) (L2 : wLn) (R2 : wRf) => ∃ J2 : wJn, Det (some (.int (iI (opt c (LCx (tR J) (bR J) ρ) (RCx (tR J) (bR J) ρ) π c 0 0)))) n K (zw J2) L R r2 n2 K2 I2 L2 R2 ∧ (∀ a, a ≠ 45 → J2 a = J a) ∧ Lst J2 c (LCx (tR J) (bR J) ρ) (RCx (tR J) (bR J) ρ) π 0) = post
  generalize hLC : LCx (tR J) (bR J) ρ = LC at *
  generalize hRC : RCx (tR J) (bR J) ρ = RC at *
  have hof := opt_far okl okr h2.1
  -- the end
  have fin : ∀ J2 : wJn, (∀ a, a ≠ 45 → J2 a = J a) → Lst J2 c LC RC π 0 → wp Γ 0 0 (QQ Γ post) 196 [some (.ref 34), some (.int (iI ρ)), some (.int (iI π)), some (.int (iI c)), none, none, none, none, none, none] [] n K (zw J2) L R := by
    intro J2 a1 a2
    have h0 := a2 0 0 0 (by omega) (by omega) (by omega) (by omega)
    refine w_aload_n (pc2 := 197) C dX11_weighs_196 rfl rfl ?_
    refine w_getR (pc2 := 200) C dX11_weighs_197 fl_X11_43 (by first | exact hy.k _ | assumption) (by first | exact hy.r _ _ | assumption) rfl ?_
    refine w_iconst (pc2 := 201) (v := iI 0) C dX11_weighs_200 (by decide) rfl ?_
    -- at 201: .iaload
    refine z_iald (pc2 := 202) (j := 0) C dX11_weighs_201 (by first | exact hy.k _ | assumption) (by omega) (by omega) (by decide) rfl ?_
    exact w_iret C dX11_weighs_202 (by decide) (by decide) (by
      rw [← hpost]
      refine ⟨J2, DetI ?_ rfl, a1, a2⟩
      rw [show J2 45 0 = opt c LC RC π (c - 0) 0 0 from h0]
      rfl)
  have keyk : ∀ (k : Nat) (J2 : wJn), k ≤ c → (∀ a, a ≠ 45 → J2 a = J a) → Lst J2 c LC RC π k → wp Γ 0 0 (QQ Γ post) 57 [some (.ref 34), some (.int (iI ρ)), some (.int (iI π)), some (.int (iI c)), some (.int (iI ((k : Int) - 1))), none, none, none, none, none] [] n K (zw J2) L R := by
    intro k
    induction k with
    | zero =>
      intro J2 hk a1 a2
      refine w_iload (pc2 := 59) C dX11_weighs_57 rfl rfl ?_
      -- at 59: .ifCond .lt 137
      refine z_if_lt (pc2 := 62) (tgt := 196) C dX11_weighs_59 (by decide) rfl (by omega) (fun g1 => ?_) (fun g1 => ?_)
      · exact w_drop (fin J2 a1 a2) ⟨rfl, rfl, rfl, rfl, trivial⟩
      · exact absurd g1 (by omega)
    | succ k ihk =>
      intro J2 hk a1 a2
      rw [show (((k + 1 : Nat) : Int) - 1) = (k : Int) by omega]
      -- the rows of l
      have keyl : ∀ (dl l : Nat) (J3 : wJn), l + dl = k + 1 → (∀ a, a ≠ 45 → J3 a = J a) → Lst J3 c LC RC π (k + 1) → (∀ l2 r2, l2 < l → r2 ≤ k → J3 45 ((k * 101 + l2) * 101 + r2) = opt c LC RC π (c - k) l2 r2) → wp Γ 0 0 (QQ Γ post) 65 [some (.ref 34), some (.int (iI ρ)), some (.int (iI π)), some (.int (iI c)), some (.int (iI k)), some (.int (iI l)), none, none, none, none] [] n K (zw J3) L R := by
        intro dl
        induction dl with
        | zero =>
          intro l J3 hl b1 b2 b3
          refine w_iload (pc2 := 67) C dX11_weighs_65 rfl rfl ?_
          refine w_iload (pc2 := 69) C dX11_weighs_67 rfl rfl ?_
          -- at 69: .if_icmp .gt 121
          refine z_icmp_gt (pc2 := 72) (tgt := 190) C dX11_weighs_69 (by decide) rfl (by omega) (by omega) (fun g1 => ?_) (fun g1 => ?_)
          · skip
            refine w_iinc (pc2 := 193) C dX11_weighs_190 rfl (iI_add _ _) rfl (by decide) rfl rfl ?_
            try dsimp only [List.set]
            refine w_goto (tgt := 57) C dX11_weighs_193 (by decide) ?_
            -- at 57: .iload 4
            rw [show ((k : Int) + -1) = (k : Int) - 1 by omega]
            refine w_drop (ihk J3 (by omega) b1 ?_) ⟨rfl, rfl, rfl, rfl, rfl, trivial⟩
            intro k2 l2 r2 hk2 hk3 hl2 hr2
            by_cases e : k2 = k
            · subst e
              exact b3 l2 r2 (by omega) hr2
            · exact b2 k2 l2 r2 (by omega) hk3 hl2 hr2
          · exact absurd hl (by omega)
        | succ dl ihl =>
          intro l J3 hl b1 b2 b3
          have keyr : ∀ (dr r : Nat) (J4 : wJn), r + dr = k + 1 → (∀ a, a ≠ 45 → J4 a = J a) → Lst J4 c LC RC π (k + 1) → (∀ l2 r2, l2 < l → r2 ≤ k → J4 45 ((k * 101 + l2) * 101 + r2) = opt c LC RC π (c - k) l2 r2) → (∀ r2, r2 < r → J4 45 ((k * 101 + l) * 101 + r2) = opt c LC RC π (c - k) l r2) → wp Γ 0 0 (QQ Γ post) 75 [some (.ref 34), some (.int (iI ρ)), some (.int (iI π)), some (.int (iI c)), some (.int (iI k)), some (.int (iI l)), some (.int (iI r)), none, none, none] [] n K (zw J4) L R := by
            intro dr
            induction dr with
            | zero =>
              intro r J4 hr c1 c2 c3 c4
              refine w_iload (pc2 := 77) C dX11_weighs_75 rfl rfl ?_
              refine w_iload (pc2 := 79) C dX11_weighs_77 rfl rfl ?_
              -- at 79: .if_icmp .gt 105
              refine z_icmp_gt (pc2 := 82) (tgt := 184) C dX11_weighs_79 (by decide) rfl (by omega) (by omega) (fun g1 => ?_) (fun g1 => ?_)
              · skip
                refine w_iinc (pc2 := 187) C dX11_weighs_184 rfl (iI_add _ _) rfl (by decide) rfl rfl ?_
                try dsimp only [List.set]
                refine w_goto (tgt := 65) C dX11_weighs_187 (by decide) ?_
                -- at 65: .iload 5
                rw [show ((l : Int) + 1) = ((l + 1 : Nat) : Int) by omega]
                refine w_drop (ihl (l + 1) J4 (by omega) c1 c2 (fun l2 r2 hl2 hr2 => ?_)) ⟨rfl, rfl, rfl, rfl, rfl, rfl, trivial⟩
                by_cases e : l2 = l
                · subst e; exact c4 r2 (by omega)
                · exact c3 l2 r2 (by omega) hr2
              · exact absurd hr (by omega)
            | succ dr ihr =>
              intro r J4 hr c1 c2 c3 c4
              have e35 : J4 35 = J 35 := c1 35 (by decide)
              have eT : tR J4 = tR J := by unfold tR; rw [e35]
              have eB : bR J4 = bR J := by unfold bR; rw [e35]
              have hm4 := hm.row e35
              have hbh : ∀ ch, ch ≤ 2 → 0 ≤ bhd c LC RC π k l r ch ∧ bhd c LC RC π k l r ch ≤ 100000000 := fun ch hch => by
                unfold bhd
                exact hof (c - (k + 1)) _ _ (by omega) (by split <;> omega) (by split <;> omega)
              have hcs : ∀ ch, ch ≤ 2 → 0 ≤ cst (tR J) (bR J) ρ π k l r ch ∧ cst (tR J) (bR J) ρ π k l r ch ≤ 100000000 := fun ch hch => by
                have q1 := okl k l r (by omega) (by omega) (by omega)
                have q2 := okr k l r (by omega) (by omega) (by omega)
                unfold cst
                rw [hLC, hRC]
                unfold FAR at *
                split
                · omega
                · split <;> omega
              have hbc : ∀ ch, ch ≤ 3 → 0 ≤ bcF (cst (tR J) (bR J) ρ π k l r) (bhd c LC RC π k l r) ch ∧ bcF (cst (tR J) (bR J) ρ π k l r) (bhd c LC RC π k l r) ch ≤ 100000000 := by
                intro ch
                induction ch with
                | zero => intro _; simp [bcF, FAR]
                | succ ch ih =>
                  intro hch
                  have q1 := ih (by omega)
                  have q2 := hbh ch (by omega)
                  have q3 := hcs ch (by omega)
                  exact bst1_bd q1 q3.1 q2.1
              have keyc : ∀ (dc ch : Nat), ch + dc = 3 → wp Γ 0 0 (QQ Γ post) 89 [some (.ref 34), some (.int (iI ρ)), some (.int (iI π)), some (.int (iI c)), some (.int (iI k)), some (.int (iI l)), some (.int (iI r)), some (.int (iI (bcF (cst (tR J) (bR J) ρ π k l r) (bhd c LC RC π k l r) ch))), some (.int (iI ch)), none] [] n K (zw J4) L R := by
                intro dc
                induction dc with
                | zero =>
                  intro ch hch
                  have e : ch = 3 := by omega
                  subst e
                  have hb3 : bcF (cst (tR J) (bR J) ρ π k l r) (bhd c LC RC π k l r) 3 = opt c LC RC π (c - k) l r := by
                    rw [← hLC, ← hRC]; exact bcF_3 (by omega)
                  rw [hb3]
                  have hp := pl_lt (k := k) (l := l) (r := r) (by omega) (by omega) (by omega)
                  refine w_iload (pc2 := 91) C dX11_weighs_89 rfl rfl ?_
                  refine w_iconst (pc2 := 92) (v := iI 3) C dX11_weighs_91 (by decide) rfl ?_
                  -- at 92: .if_icmp .ge 69
                  refine z_icmp_ge (pc2 := 95) (tgt := 161) C dX11_weighs_92 (by decide) rfl (by omega) (by omega) (fun g1 => ?_) (fun g1 => ?_)
                  · skip
                    refine w_aload_n (pc2 := 162) C dX11_weighs_161 rfl rfl ?_
                    refine w_getR (pc2 := 165) C dX11_weighs_162 fl_X11_43 (by first | exact hy.k _ | assumption) (by first | exact hy.r _ _ | assumption) rfl ?_
                    refine w_aload_n (pc2 := 166) C dX11_weighs_165 rfl rfl ?_
                    refine w_iload (pc2 := 168) C dX11_weighs_166 rfl rfl ?_
                    refine w_iload (pc2 := 170) C dX11_weighs_168 rfl rfl ?_
                    refine w_iload (pc2 := 172) C dX11_weighs_170 rfl rfl ?_
                    -- at 172: .invokevirtual 129
                    refine w_cVi (pc2 := 175)  C dX11_weighs_172 mb_X11_129 mv_X11_place (s_X11_place) (by first | exact hy.k _ | assumption) rfl (by decide) rfl rfl (Nat.le_of_ble_eq_true rfl) ⟨by decide, by decide⟩ ⟨rfl, rfl⟩ ⟨by decide, by decide⟩ rfl ?_
                    refine w_iload (pc2 := 177) C dX11_weighs_175 rfl rfl ?_
                    -- at 177: .iastore
                    refine z_iast (pc2 := 178) (j := (k * 101 + l) * 101 + r) C dX11_weighs_177 (by first | exact hy.k _ | assumption) (by omega) (by omega) (by decide) rfl ?_
                    refine w_iinc (pc2 := 181) C dX11_weighs_178 rfl (iI_add _ _) rfl (by decide) rfl rfl ?_
                    try dsimp only [List.set]
                    refine w_goto (tgt := 75) C dX11_weighs_181 (by decide) ?_
                    -- at 75: .iload 6
                    rw [show ((r : Int) + 1) = ((r + 1 : Nat) : Int) by omega]
                    have up45 : ∀ k2 l2 r2, l2 ≤ 100 → r2 ≤ 100 → ¬ (k2 = k ∧ l2 = l ∧ r2 = r) → up2 J4 45 ((k * 101 + l) * 101 + r) (opt c LC RC π (c - k) l r) 45 ((k2 * 101 + l2) * 101 + r2) = J4 45 ((k2 * 101 + l2) * 101 + r2) := fun k2 l2 r2 hl2 hr2 hne => by
                      rw [up2_n _ _ _ _ (fun q => hne (pl_inj hl2 (by omega) hr2 (by omega) q.2))]
                    refine w_drop (ihr (r + 1) _ (by omega) (fun a ha => by rw [up2_row ha]; exact c1 a ha) (fun k2 l2 r2 q1 q2 q3 q4 => ?_) (fun l2 r2 q1 q2 => ?_) (fun r2 q1 => ?_)) ⟨rfl, rfl, rfl, rfl, rfl, rfl, rfl, trivial⟩
                    · rw [up45 k2 l2 r2 (by omega) (by omega) (by omega)]; exact c2 k2 l2 r2 q1 q2 q3 q4
                    · rw [up45 k l2 r2 (by omega) (by omega) (by omega)]; exact c3 l2 r2 q1 q2
                    · by_cases e : r2 = r
                      · subst e; rw [up2_s]
                      · rw [up45 k l r2 (by omega) (by omega) (by omega)]; exact c4 r2 (by omega)
                  · exact absurd g1 (by decide)
                | succ dc ihc =>
                  intro ch hch
                  have q0 := hbc ch (by omega)
                  have q1 := hbh ch (by omega)
                  have q2 := hcs ch (by omega)
                  have hcst := s_X11_costOf (n := n) (L := L) (π := π) hy hm4 (show k < c by omega) (show l ≤ k by omega) (show r ≤ k by omega) (show ch ≤ 2 by omega) h1
                  rw [eT, eB] at hcst
                  have hstep : bcF (cst (tR J) (bR J) ρ π k l r) (bhd c LC RC π k l r) (ch + 1) = bst1 (bcF (cst (tR J) (bR J) ρ π k l r) (bhd c LC RC π k l r) ch) (cst (tR J) (bR J) ρ π k l r ch) (bhd c LC RC π k l r ch) := rfl
                  have hnext := ihc (ch + 1) (by omega)
                  rw [hstep] at hnext
                  generalize bcF (cst (tR J) (bR J) ρ π k l r) (bhd c LC RC π k l r) ch = b0 at *
                  generalize cst (tR J) (bR J) ρ π k l r ch = v at *
                  refine w_iload (pc2 := 91) C dX11_weighs_89 rfl rfl ?_
                  refine w_iconst (pc2 := 92) (v := iI 3) C dX11_weighs_91 (by decide) rfl ?_
                  -- at 92: .if_icmp .ge 69
                  refine z_icmp_ge (pc2 := 95) (tgt := 161) C dX11_weighs_92 (by decide) rfl (by omega) (by omega) (fun g1 => ?_) (fun g1 => ?_)
                  · exact absurd g1 (by omega)
                  · skip
                    refine w_aload_n (pc2 := 96) C dX11_weighs_95 rfl rfl ?_
                    refine w_iload (pc2 := 98) C dX11_weighs_96 rfl rfl ?_
                    refine w_iload (pc2 := 100) C dX11_weighs_98 rfl rfl ?_
                    refine w_iload (pc2 := 102) C dX11_weighs_100 rfl rfl ?_
                    refine w_iload (pc2 := 104) C dX11_weighs_102 rfl rfl ?_
                    refine w_iload_n (pc2 := 105) C dX11_weighs_104 rfl rfl ?_
                    refine w_iload_n (pc2 := 106) C dX11_weighs_105 rfl rfl ?_
                    -- at 106: .invokevirtual 132
                    refine w_cVi (pc2 := 109)  C dX11_weighs_106 mb_X11_132 mv_X11_costOf (hcst) (by first | exact hy.k _ | assumption) rfl (by decide) rfl rfl (Nat.le_of_ble_eq_true rfl) ⟨by decide, by decide⟩ ⟨rfl, rfl⟩ ⟨by decide, by decide⟩ rfl ?_
                    refine w_istore (pc2 := 111) C dX11_weighs_109 rfl (by decide) rfl rfl ?_
                    try dsimp only [List.set]
                    refine w_iload (pc2 := 113) C dX11_weighs_111 rfl rfl ?_
                    refine w_ldc (pc2 := 115) C dX11_weighs_113 kc_X11_120 rfl ?_
                    -- at 115: .if_icmp .ge 40
                    show wp Γ 0 0 _ _ _ [.int (iI 100000000), .int (iI v)] _ _ _ _ _
                    refine z_icmp_ge (pc2 := 118) (tgt := 155) C dX11_weighs_115 (by decide) rfl (by omega) (by omega) (fun g2 => ?_) (fun g2 => ?_)
                    · have eb : bst1 b0 v (bhd c LC RC π k l r ch) = b0 := by unfold bst1; rw [if_neg (by unfold FAR; omega)]
                      rw [eb] at hnext
                      refine w_iinc (pc2 := 158) C dX11_weighs_155 rfl (iI_add _ _) rfl (by decide) rfl rfl ?_
                      try dsimp only [List.set]
                      refine w_goto (tgt := 89) C dX11_weighs_158 (by decide) ?_
                      -- at 89: .iload 8
                      exact w_drop hnext ⟨rfl, rfl, rfl, rfl, rfl, rfl, rfl, rfl, rfl, trivial⟩
                    · skip
                      refine w_iload (pc2 := 120) C dX11_weighs_118 rfl rfl ?_
                      refine w_aload_n (pc2 := 121) C dX11_weighs_120 rfl rfl ?_
                      refine w_iload (pc2 := 123) C dX11_weighs_121 rfl rfl ?_
                      refine w_iload (pc2 := 125) C dX11_weighs_123 rfl rfl ?_
                      refine w_iload (pc2 := 127) C dX11_weighs_125 rfl rfl ?_
                      refine w_iload (pc2 := 129) C dX11_weighs_127 rfl rfl ?_
                      -- at 129: .invokevirtual 136
                      refine w_cVi (pc2 := 132)  C dX11_weighs_129 mb_X11_136 mv_X11_behind (s_X11_behind hy c2 hc2 (show k < c by omega) (show l ≤ k by omega) (show r ≤ k by omega) (show ch ≤ 2 by omega)) (by first | exact hy.k _ | assumption) rfl (by decide) rfl rfl (Nat.le_of_ble_eq_true rfl) ⟨by decide, by decide⟩ ⟨rfl, rfl⟩ ⟨by decide, by decide⟩ rfl ?_
                      refine z_iadd (pc2 := 133) C dX11_weighs_132 rfl ?_
                      refine w_iload (pc2 := 135) C dX11_weighs_133 rfl rfl ?_
                      -- at 135: .if_icmp .ge 20
                      refine z_icmp_ge (pc2 := 138) (tgt := 155) C dX11_weighs_135 (by decide) rfl (by omega) (by omega) (fun g3 => ?_) (fun g3 => ?_)
                      · have eb : bst1 b0 v (bhd c LC RC π k l r ch) = b0 := by unfold bst1; rw [if_neg (by unfold FAR; omega)]
                        rw [eb] at hnext
                        refine w_iinc (pc2 := 158) C dX11_weighs_155 rfl (iI_add _ _) rfl (by decide) rfl rfl ?_
                        try dsimp only [List.set]
                        refine w_goto (tgt := 89) C dX11_weighs_158 (by decide) ?_
                        -- at 89: .iload 8
                        exact w_drop hnext ⟨rfl, rfl, rfl, rfl, rfl, rfl, rfl, rfl, rfl, trivial⟩
                      · have eb : bst1 b0 v (bhd c LC RC π k l r ch) = v + bhd c LC RC π k l r ch := by unfold bst1; rw [if_pos (by unfold FAR; omega)]
                        rw [eb] at hnext
                        refine w_iload (pc2 := 140) C dX11_weighs_138 rfl rfl ?_
                        refine w_aload_n (pc2 := 141) C dX11_weighs_140 rfl rfl ?_
                        refine w_iload (pc2 := 143) C dX11_weighs_141 rfl rfl ?_
                        refine w_iload (pc2 := 145) C dX11_weighs_143 rfl rfl ?_
                        refine w_iload (pc2 := 147) C dX11_weighs_145 rfl rfl ?_
                        refine w_iload (pc2 := 149) C dX11_weighs_147 rfl rfl ?_
                        -- at 149: .invokevirtual 136
                        refine w_cVi (pc2 := 152)  C dX11_weighs_149 mb_X11_136 mv_X11_behind (s_X11_behind hy c2 hc2 (show k < c by omega) (show l ≤ k by omega) (show r ≤ k by omega) (show ch ≤ 2 by omega)) (by first | exact hy.k _ | assumption) rfl (by decide) rfl rfl (Nat.le_of_ble_eq_true rfl) ⟨by decide, by decide⟩ ⟨rfl, rfl⟩ ⟨by decide, by decide⟩ rfl ?_
                        refine z_iadd (pc2 := 153) C dX11_weighs_152 rfl ?_
                        refine w_istore (pc2 := 155) C dX11_weighs_153 rfl (by decide) rfl rfl ?_
                        try dsimp only [List.set]
                        refine w_iinc (pc2 := 158) C dX11_weighs_155 rfl (iI_add _ _) rfl (by decide) rfl rfl ?_
                        try dsimp only [List.set]
                        refine w_goto (tgt := 89) C dX11_weighs_158 (by decide) ?_
                        -- at 89: .iload 8
                        exact w_drop hnext ⟨rfl, rfl, rfl, rfl, rfl, rfl, rfl, rfl, rfl, trivial⟩
              refine w_iload (pc2 := 77) C dX11_weighs_75 rfl rfl ?_
              refine w_iload (pc2 := 79) C dX11_weighs_77 rfl rfl ?_
              -- at 79: .if_icmp .gt 105
              refine z_icmp_gt (pc2 := 82) (tgt := 184) C dX11_weighs_79 (by decide) rfl (by omega) (by omega) (fun g1 => ?_) (fun g1 => ?_)
              · exact absurd g1 (by omega)
              · skip
                refine w_ldc (pc2 := 84) C dX11_weighs_82 kc_X11_120 rfl ?_
                refine w_istore (pc2 := 86) C dX11_weighs_84 rfl (by decide) rfl rfl ?_
                try dsimp only [List.set]
                refine w_iconst (pc2 := 87) (v := iI 0) C dX11_weighs_86 (by decide) rfl ?_
                refine w_istore (pc2 := 89) C dX11_weighs_87 rfl (by decide) rfl rfl ?_
                try dsimp only [List.set]
                -- at 89: .iload 8
                exact w_drop (keyc 3 0 (by omega)) ⟨rfl, rfl, rfl, rfl, rfl, rfl, rfl, rfl, rfl, trivial⟩
          refine w_iload (pc2 := 67) C dX11_weighs_65 rfl rfl ?_
          refine w_iload (pc2 := 69) C dX11_weighs_67 rfl rfl ?_
          -- at 69: .if_icmp .gt 121
          refine z_icmp_gt (pc2 := 72) (tgt := 190) C dX11_weighs_69 (by decide) rfl (by omega) (by omega) (fun g1 => ?_) (fun g1 => ?_)
          · exact absurd g1 (by omega)
          · skip
            refine w_iconst (pc2 := 73) (v := iI 0) C dX11_weighs_72 (by decide) rfl ?_
            refine w_istore (pc2 := 75) C dX11_weighs_73 rfl (by decide) rfl rfl ?_
            try dsimp only [List.set]
            -- at 75: .iload 6
            exact keyr (k + 1) 0 J3 (by omega) b1 b2 b3 (fun r2 h => absurd h (Nat.not_lt_zero _))
      refine w_iload (pc2 := 59) C dX11_weighs_57 rfl rfl ?_
      -- at 59: .ifCond .lt 137
      refine z_if_lt (pc2 := 62) (tgt := 196) C dX11_weighs_59 (by decide) rfl (by omega) (fun g1 => ?_) (fun g1 => ?_)
      · exact absurd g1 (by omega)
      · skip
        refine w_iconst (pc2 := 63) (v := iI 0) C dX11_weighs_62 (by decide) rfl ?_
        refine w_istore (pc2 := 65) C dX11_weighs_63 rfl (by decide) rfl rfl ?_
        try dsimp only [List.set]
        -- at 65: .iload 5
        exact keyl (k + 1) 0 J2 (by omega) a1 a2 (fun l2 r2 h => absurd h (Nat.not_lt_zero _))
  -- the first row
  have key0 : ∀ (dl l : Nat) (J3 : wJn), l + dl = c + 1 → (∀ a, a ≠ 45 → J3 a = J a) → (∀ l2 r2, l2 < l → r2 ≤ c → J3 45 ((c * 101 + l2) * 101 + r2) = 0) → wp Γ 0 0 (QQ Γ post) 10 [some (.ref 34), some (.int (iI ρ)), some (.int (iI π)), some (.int (iI c)), some (.int (iI l)), none, none, none, none, none] [] n K (zw J3) L R := by
    intro dl
    induction dl with
    | zero =>
      intro l J3 hl b1 b2
      refine w_iload (pc2 := 12) C dX11_weighs_10 rfl rfl ?_
      refine w_iload_n (pc2 := 13) C dX11_weighs_12 rfl rfl ?_
      -- at 13: .if_icmp .gt 39
      refine z_icmp_gt (pc2 := 16) (tgt := 52) C dX11_weighs_13 (by decide) rfl (by omega) (by omega) (fun g1 => ?_) (fun g1 => ?_)
      · skip
        refine w_iload_n (pc2 := 53) C dX11_weighs_52 rfl rfl ?_
        refine w_iconst (pc2 := 54) (v := iI 1) C dX11_weighs_53 (by decide) rfl ?_
        refine z_isub (pc2 := 55) C dX11_weighs_54 rfl ?_
        refine w_istore (pc2 := 57) C dX11_weighs_55 rfl (by decide) rfl rfl ?_
        try dsimp only [List.set]
        -- at 57: .iload 4
        refine w_drop (keyk c J3 (Nat.le_refl _) b1 (fun k2 l2 r2 q1 q2 q3 q4 => ?_)) ⟨rfl, rfl, rfl, rfl, rfl, trivial⟩
        have e : k2 = c := by omega
        subst e
        rw [b2 l2 r2 (by omega) q4, Nat.sub_self]
        rfl
      · exact absurd hl (by omega)
    | succ dl ihl =>
      intro l J3 hl b1 b2
      have keyr : ∀ (dr r : Nat) (J4 : wJn), r + dr = c + 1 → (∀ a, a ≠ 45 → J4 a = J a) → (∀ l2 r2, l2 < l → r2 ≤ c → J4 45 ((c * 101 + l2) * 101 + r2) = 0) → (∀ r2, r2 < r → J4 45 ((c * 101 + l) * 101 + r2) = 0) → wp Γ 0 0 (QQ Γ post) 19 [some (.ref 34), some (.int (iI ρ)), some (.int (iI π)), some (.int (iI c)), some (.int (iI l)), some (.int (iI r)), none, none, none, none] [] n K (zw J4) L R := by
        intro dr
        induction dr with
        | zero =>
          intro r J4 hr c1 c3 c4
          refine w_iload (pc2 := 21) C dX11_weighs_19 rfl rfl ?_
          refine w_iload_n (pc2 := 22) C dX11_weighs_21 rfl rfl ?_
          -- at 22: .if_icmp .gt 24
          refine z_icmp_gt (pc2 := 25) (tgt := 46) C dX11_weighs_22 (by decide) rfl (by omega) (by omega) (fun g1 => ?_) (fun g1 => ?_)
          · skip
            refine w_iinc (pc2 := 49) C dX11_weighs_46 rfl (iI_add _ _) rfl (by decide) rfl rfl ?_
            try dsimp only [List.set]
            refine w_goto (tgt := 10) C dX11_weighs_49 (by decide) ?_
            -- at 10: .iload 4
            rw [show ((l : Int) + 1) = ((l + 1 : Nat) : Int) by omega]
            refine w_drop (ihl (l + 1) J4 (by omega) c1 (fun l2 r2 hl2 hr2 => ?_)) ⟨rfl, rfl, rfl, rfl, rfl, trivial⟩
            by_cases e : l2 = l
            · subst e; exact c4 r2 (by omega)
            · exact c3 l2 r2 (by omega) hr2
          · exact absurd hr (by omega)
        | succ dr ihr =>
          intro r J4 hr c1 c3 c4
          have hp := pl_lt (k := c) (l := l) (r := r) (by omega) (by omega) (by omega)
          have up45 : ∀ l2 r2, l2 ≤ 100 → r2 ≤ 100 → ¬ (l2 = l ∧ r2 = r) → up2 J4 45 ((c * 101 + l) * 101 + r) 0 45 ((c * 101 + l2) * 101 + r2) = J4 45 ((c * 101 + l2) * 101 + r2) := fun l2 r2 hl2 hr2 hne => by
            rw [up2_n _ _ _ _ (fun q => hne (pl_inj hl2 (by omega) hr2 (by omega) q.2).2)]
          refine w_iload (pc2 := 21) C dX11_weighs_19 rfl rfl ?_
          refine w_iload_n (pc2 := 22) C dX11_weighs_21 rfl rfl ?_
          -- at 22: .if_icmp .gt 24
          refine z_icmp_gt (pc2 := 25) (tgt := 46) C dX11_weighs_22 (by decide) rfl (by omega) (by omega) (fun g1 => ?_) (fun g1 => ?_)
          · exact absurd g1 (by omega)
          · skip
            refine w_aload_n (pc2 := 26) C dX11_weighs_25 rfl rfl ?_
            refine w_getR (pc2 := 29) C dX11_weighs_26 fl_X11_43 (by first | exact hy.k _ | assumption) (by first | exact hy.r _ _ | assumption) rfl ?_
            refine w_aload_n (pc2 := 30) C dX11_weighs_29 rfl rfl ?_
            refine w_iload_n (pc2 := 31) C dX11_weighs_30 rfl rfl ?_
            refine w_iload (pc2 := 33) C dX11_weighs_31 rfl rfl ?_
            refine w_iload (pc2 := 35) C dX11_weighs_33 rfl rfl ?_
            -- at 35: .invokevirtual 129
            refine w_cVi (pc2 := 38)  C dX11_weighs_35 mb_X11_129 mv_X11_place (s_X11_place) (by first | exact hy.k _ | assumption) rfl (by decide) rfl rfl (Nat.le_of_ble_eq_true rfl) ⟨by decide, by decide⟩ ⟨rfl, rfl⟩ ⟨by decide, by decide⟩ rfl ?_
            refine w_iconst (pc2 := 39) (v := iI 0) C dX11_weighs_38 (by decide) rfl ?_
            -- at 39: .iastore
            refine z_iast (pc2 := 40) (j := (c * 101 + l) * 101 + r) C dX11_weighs_39 (by first | exact hy.k _ | assumption) (by omega) (by omega) (by decide) rfl ?_
            refine w_iinc (pc2 := 43) C dX11_weighs_40 rfl (iI_add _ _) rfl (by decide) rfl rfl ?_
            try dsimp only [List.set]
            refine w_goto (tgt := 19) C dX11_weighs_43 (by decide) ?_
            -- at 19: .iload 5
            rw [show ((r : Int) + 1) = ((r + 1 : Nat) : Int) by omega]
            refine ihr (r + 1) _ (by omega) (fun a ha => by rw [up2_row ha]; exact c1 a ha) (fun l2 r2 q1 q2 => ?_) (fun r2 q1 => ?_)
            · rw [up45 l2 r2 (by omega) (by omega) (by omega)]; exact c3 l2 r2 q1 q2
            · by_cases e : r2 = r
              · subst e; rw [up2_s]
              · rw [up45 l r2 (by omega) (by omega) (by omega)]; exact c4 r2 (by omega)
      refine w_iload (pc2 := 12) C dX11_weighs_10 rfl rfl ?_
      refine w_iload_n (pc2 := 13) C dX11_weighs_12 rfl rfl ?_
      -- at 13: .if_icmp .gt 39
      refine z_icmp_gt (pc2 := 16) (tgt := 52) C dX11_weighs_13 (by decide) rfl (by omega) (by omega) (fun g1 => ?_) (fun g1 => ?_)
      · exact absurd g1 (by omega)
      · skip
        refine w_iconst (pc2 := 17) (v := iI 0) C dX11_weighs_16 (by decide) rfl ?_
        refine w_istore (pc2 := 19) C dX11_weighs_17 rfl (by decide) rfl rfl ?_
        try dsimp only [List.set]
        -- at 19: .iload 5
        exact keyr (c + 1) 0 J3 (by omega) b1 b2 (fun r2 h => absurd h (Nat.not_lt_zero _))
  refine w_aload_n (pc2 := 1) C dX11_weighs_0 rfl rfl ?_
  refine w_getR (pc2 := 4) C dX11_weighs_1 fl_X11_7 (by first | exact hy.k _ | assumption) (by first | exact hy.r _ _ | assumption) rfl ?_
  refine w_iconst (pc2 := 5) (v := iI 0) C dX11_weighs_4 (by decide) rfl ?_
  -- at 5: .iaload
  refine z_iald (pc2 := 6) (j := 0) C dX11_weighs_5 (by first | exact hy.k _ | assumption) (by omega) (by omega) (by decide) rfl ?_
  rw [hm.1]
  refine w_istore_n (pc2 := 7) C dX11_weighs_6 rfl (by decide) rfl rfl ?_
  try dsimp only [List.set]
  refine w_iconst (pc2 := 8) (v := iI 0) C dX11_weighs_7 (by decide) rfl ?_
  refine w_istore (pc2 := 10) C dX11_weighs_8 rfl (by decide) rfl rfl ?_
  try dsimp only [List.set]
  -- at 10: .iload 4
  exact key0 (c + 1) 0 J (by omega) (fun _ _ => rfl) (fun l2 r2 h => absurd h (Nat.not_lt_zero _))
end WEIGH
