/-! ===== the reference reads its text ===== -/
def TxR (J : wJn) (s : Nat → Int) (t : Nat) : Prop := J 34 6 = t ∧ Sg s t ∧ ∀ p, p < t → J 38 p = s p
theorem TxR.rows {J J2 : wJn} {s : Nat → Int} {t : Nat} (h : TxR J s t) (h1 : J2 34 6 = J 34 6) (h2 : J2 38 = J 38) : TxR J2 s t := by
  unfold TxR
  rw [h1, h2]
  exact h
/-- what number leaves -/
def RnR (J J2 : wJn) (s : Nat → Int) (t p : Nat) (lo hi v : Int) : Prop := (∀ a, a ≠ 34 → J2 a = J a) ∧ (∀ b, b ≠ 5 → b ≠ 7 → b ≠ 8 → b ≠ 9 → J2 34 b = J 34 b) ∧ (0 ≤ v ∧ v < 1000) ∧ (∃ p2 : Nat, p2 ≤ t ∧ J2 34 5 = p2) ∧ (∀ f, num s t p lo hi = .inl f → J2 34 7 = f.1 ∧ J2 34 8 = f.2 ∧ (f.1 = 1 ∨ f.1 = 2)) ∧ (∀ u q e, num s t p lo hi = .inr (u, q, e) → J2 34 7 = 0 ∧ J2 34 8 = J 34 8 ∧ J2 34 5 = (e : Nat) ∧ J2 34 9 = (q : Nat) ∧ v = u)
section REF7
variable {n : Nat} {K : wKd} {J : wJn} {L : wLn} {R : wRf}
theorem s_X11_fail (hy : Ly K R) {k p : Int} (hf : J 34 7 = 0) : S_X11_fail [.ref 34, .int (iI k), .int (iI p)] n K (zw J) L R (Det none n K (zw (up2 (up2 J 34 7 k) 34 8 p)) L R) := by
  refine Sp_intro [some (.ref 34), some (.int (iI k)), some (.int (iI p))] rfl rfl (Nat.le_of_ble_eq_true rfl) rfl ?_
  intro Γ C
  replace C : C_X11_fail Γ := C
  refine w_aload_n (pc2 := 1) C dX11_fail_0 rfl rfl ?_
  refine z_getI (pc2 := 4) C dX11_fail_1 fl_X11_56 (by first | exact hy.k _ | assumption) rfl ?_
  -- at 4: .ifCond .eq 4
  refine z_if_eq (pc2 := 7) (tgt := 8) C dX11_fail_4 (by decide) rfl (by omega) (fun h1 => ?_) (fun h1 => ?_)
  · skip
    refine w_aload_n (pc2 := 9) C dX11_fail_8 rfl rfl ?_
    refine w_iload_n (pc2 := 10) C dX11_fail_9 rfl rfl ?_
    refine z_putI (pc2 := 13) C dX11_fail_10 fl_X11_56 (by first | exact hy.k _ | assumption) (by rfl) (by rfl) rfl ?_
    refine w_aload_n (pc2 := 14) C dX11_fail_13 rfl rfl ?_
    refine w_iload_n (pc2 := 15) C dX11_fail_14 rfl rfl ?_
    refine z_putI (pc2 := 18) C dX11_fail_15 fl_X11_59 (by first | exact hy.k _ | assumption) (by rfl) (by rfl) rfl ?_
    -- at 18: .return_
    exact w_ret C dX11_fail_18 (by decide) (by decide) (⟨rfl, rfl, rfl, rfl, rfl, rfl⟩)
  · exact absurd hf h1
theorem s_X11_isDigit {x : Int} (hx : R32 x) : S_X11_isDigit [.int (iI x)] n K (zw J) L R (Det (some (.int (iI (if 48 ≤ x ∧ x ≤ 57 then 1 else 0)))) n K (zw J) L R) := by
  refine Sp_intro [some (.int (iI x))] rfl rfl (Nat.le_of_ble_eq_true rfl) rfl ?_
  intro Γ C
  replace C : C_X11_isDigit Γ := C
  refine w_iload_n (pc2 := 1) C dX11_isDigit_0 rfl rfl ?_
  refine w_bipush (pc2 := 3) (v := iI 48) C dX11_isDigit_1 (by decide) rfl ?_
  -- at 3: .if_icmp .lt 13
  refine z_icmp_lt (pc2 := 6) (tgt := 16) C dX11_isDigit_3 (by decide) rfl (by omega) (by omega) (fun h1 => ?_) (fun h1 => ?_)
  · skip
    refine w_iconst (pc2 := 17) (v := iI 0) C dX11_isDigit_16 (by decide) rfl ?_
    -- at 17: .ireturn
    exact w_zret C dX11_isDigit_17 (Or.inl rfl) (by decide) (by decide) (DetI (by rw [if_neg (by omega)]) rfl)
  · skip
    refine w_iload_n (pc2 := 7) C dX11_isDigit_6 rfl rfl ?_
    refine w_bipush (pc2 := 9) (v := iI 57) C dX11_isDigit_7 (by decide) rfl ?_
    -- at 9: .if_icmp .gt 7
    refine z_icmp_gt (pc2 := 12) (tgt := 16) C dX11_isDigit_9 (by decide) rfl (by omega) (by omega) (fun h2 => ?_) (fun h2 => ?_)
    · skip
      refine w_iconst (pc2 := 17) (v := iI 0) C dX11_isDigit_16 (by decide) rfl ?_
      -- at 17: .ireturn
      exact w_zret C dX11_isDigit_17 (Or.inl rfl) (by decide) (by decide) (DetI (by rw [if_neg (by omega)]) rfl)
    · skip
      refine w_iconst (pc2 := 13) (v := iI 1) C dX11_isDigit_12 (by decide) rfl ?_
      refine w_goto (tgt := 17) C dX11_isDigit_13 (by decide) ?_
      -- at 17: .ireturn
      exact w_zret C dX11_isDigit_17 (Or.inr rfl) (by decide) (by decide) (DetI (by rw [if_pos (by omega)]) rfl)
theorem s_X11_next (hy : Ly K R) {s : Nat → Int} {t p : Nat} (hT : TxR J s t) (hp : J 34 5 = p) (hpt : p ≤ t) : S_X11_next [.ref 34] n K (zw J) L R (Det (some (.int (iI (s (nb s t p))))) n K (zw (up2 J 34 5 (nb s t p))) L R) := by
  have h1 := hT.1
  have h2 := hT.2.1
  have h3 := h2.1
  refine Sp_intro [some (.ref 34)] rfl rfl (Nat.le_of_ble_eq_true rfl) rfl ?_
  intro Γ C
  replace C : C_X11_next Γ := C
  have fin : ∀ (p : Nat) (J2 : wJn), p ≤ t → J2 = up2 J 34 5 p → ∀ v : Nat, v = p → wp Γ 0 0 (QQ Γ (Det (some (.int (iI (s v)))) n K (zw (up2 J 34 5 v)) L R)) 52 [some (.ref 34)] [] n K (zw J2) L R := by
    intro p J2 hpt eJ v hv
    subst hv
    have e5 : J2 34 5 = v := by rw [eJ, up2_s]
    have e6 : J2 34 6 = t := by rw [eJ, up2_n _ _ _ _ (by omega)]; exact h1
    refine w_aload_n (pc2 := 53) C dX11_next_52 rfl rfl ?_
    refine z_getI (pc2 := 56) C dX11_next_53 fl_X11_62 (by first | exact hy.k _ | assumption) rfl ?_
    refine w_aload_n (pc2 := 57) C dX11_next_56 rfl rfl ?_
    refine z_getI (pc2 := 60) C dX11_next_57 fl_X11_65 (by first | exact hy.k _ | assumption) rfl ?_
    -- at 60: .if_icmp .ge 15
    refine z_icmp_ge (pc2 := 63) (tgt := 75) C dX11_next_60 (by decide) rfl (by omega) (by omega) (fun q1 => ?_) (fun q1 => ?_)
    · skip
      refine w_iconst (pc2 := 76) (v := iI (-1)) C dX11_next_75 (by decide) rfl ?_
      -- at 76: .ireturn
      exact w_iret C dX11_next_76 (by decide) (by decide) (DetI (by rw [h2.2.1 v (by omega)]) (by rw [eJ]))
    · skip
      refine w_aload_n (pc2 := 64) C dX11_next_63 rfl rfl ?_
      refine w_getR (pc2 := 67) C dX11_next_64 fl_X11_21 (by first | exact hy.k _ | assumption) (by first | exact hy.r _ _ | assumption) rfl ?_
      refine w_aload_n (pc2 := 68) C dX11_next_67 rfl rfl ?_
      refine z_getI (pc2 := 71) C dX11_next_68 fl_X11_62 (by first | exact hy.k _ | assumption) rfl ?_
      -- at 71: .iaload
      refine z_iald (pc2 := 72) (j := v) C dX11_next_71 (by first | exact hy.k _ | assumption) (by omega) (by omega) (by decide) rfl ?_
      refine w_goto (tgt := 76) C dX11_next_72 (by decide) ?_
      -- at 76: .ireturn
      exact w_iret C dX11_next_76 (by decide) (by decide) (DetI (by rw [eJ, up2_row (by decide), hT.2.2 v (by omega)]) (by rw [eJ]))
  have key : ∀ (d p : Nat) (J2 : wJn), p + d = t → J2 = up2 J 34 5 p → ∀ v : Nat, v = nb s t p → wp Γ 0 0 (QQ Γ (Det (some (.int (iI (s v)))) n K (zw (up2 J 34 5 v)) L R)) 0 [some (.ref 34)] [] n K (zw J2) L R := by
    intro d
    induction d with
    | zero =>
      intro p J2 hd eJ v hv
      have e5 : J2 34 5 = p := by rw [eJ, up2_s]
      have e6 : J2 34 6 = t := by rw [eJ, up2_n _ _ _ _ (by omega)]; exact h1
      refine w_aload_n (pc2 := 1) C dX11_next_0 rfl rfl ?_
      refine z_getI (pc2 := 4) C dX11_next_1 fl_X11_62 (by first | exact hy.k _ | assumption) rfl ?_
      refine w_aload_n (pc2 := 5) C dX11_next_4 rfl rfl ?_
      refine z_getI (pc2 := 8) C dX11_next_5 fl_X11_65 (by first | exact hy.k _ | assumption) rfl ?_
      -- at 8: .if_icmp .ge 44
      refine z_icmp_ge (pc2 := 11) (tgt := 52) C dX11_next_8 (by decide) rfl (by omega) (by omega) (fun q1 => ?_) (fun q1 => ?_)
      · exact fin p J2 (by omega) eJ v (by rw [hv]; exact nb_stop (by have := h2.2.1 p (by omega); omega))
      · exact absurd hd (by omega)
    | succ d ih =>
      intro p J2 hd eJ v hv
      have e5 : J2 34 5 = p := by rw [eJ, up2_s]
      have e6 : J2 34 6 = t := by rw [eJ, up2_n _ _ _ _ (by omega)]; exact h1
      have e38 : J2 38 p = s p := by rw [eJ, up2_row (by decide)]; exact hT.2.2 p (by omega)
      have hb := h2.bd p
      have go : (s p = 32 ∨ s p = 10) → wp Γ 0 0 (QQ Γ (Det (some (.int (iI (s v)))) n K (zw (up2 J 34 5 v)) L R)) 39 [some (.ref 34)] [] n K (zw J2) L R := by
        intro hbl
        refine w_aload_n (pc2 := 40) C dX11_next_39 rfl rfl ?_
        refine w_dup (pc2 := 41) C dX11_next_40 rfl rfl ?_
        refine z_getI (pc2 := 44) C dX11_next_41 fl_X11_62 (by first | exact hy.k _ | assumption) rfl ?_
        refine w_iconst (pc2 := 45) (v := iI 1) C dX11_next_44 (by decide) rfl ?_
        refine z_iadd (pc2 := 46) C dX11_next_45 rfl ?_
        refine z_putI (pc2 := 49) C dX11_next_46 fl_X11_62 (by first | exact hy.k _ | assumption) (by rfl) (by rfl) rfl ?_
        refine w_goto (tgt := 0) C dX11_next_49 (by decide) ?_
        -- at 0: .aload_n 0
        exact ih (p + 1) _ (by omega) (by rw [e5, eJ, up2_up2]; congr 1) v (by rw [hv]; exact nb_step h2 hbl)
      refine w_aload_n (pc2 := 1) C dX11_next_0 rfl rfl ?_
      refine z_getI (pc2 := 4) C dX11_next_1 fl_X11_62 (by first | exact hy.k _ | assumption) rfl ?_
      refine w_aload_n (pc2 := 5) C dX11_next_4 rfl rfl ?_
      refine z_getI (pc2 := 8) C dX11_next_5 fl_X11_65 (by first | exact hy.k _ | assumption) rfl ?_
      -- at 8: .if_icmp .ge 44
      refine z_icmp_ge (pc2 := 11) (tgt := 52) C dX11_next_8 (by decide) rfl (by omega) (by omega) (fun q1 => ?_) (fun q1 => ?_)
      · exact absurd hd (by omega)
      · skip
        refine w_aload_n (pc2 := 12) C dX11_next_11 rfl rfl ?_
        refine w_getR (pc2 := 15) C dX11_next_12 fl_X11_21 (by first | exact hy.k _ | assumption) (by first | exact hy.r _ _ | assumption) rfl ?_
        refine w_aload_n (pc2 := 16) C dX11_next_15 rfl rfl ?_
        refine z_getI (pc2 := 19) C dX11_next_16 fl_X11_62 (by first | exact hy.k _ | assumption) rfl ?_
        -- at 19: .iaload
        refine z_iald (pc2 := 20) (j := p) C dX11_next_19 (by first | exact hy.k _ | assumption) (by omega) (by omega) (by decide) rfl ?_
        rw [e38]
        refine w_bipush (pc2 := 22) (v := iI 10) C dX11_next_20 (by decide) rfl ?_
        -- at 22: .if_icmp .eq 17
        refine z_icmp_eq (pc2 := 25) (tgt := 39) C dX11_next_22 (by decide) rfl (by omega) (by omega) (fun q2 => ?_) (fun q2 => ?_)
        · exact go (Or.inr q2)
        · skip
          refine w_aload_n (pc2 := 26) C dX11_next_25 rfl rfl ?_
          refine w_getR (pc2 := 29) C dX11_next_26 fl_X11_21 (by first | exact hy.k _ | assumption) (by first | exact hy.r _ _ | assumption) rfl ?_
          refine w_aload_n (pc2 := 30) C dX11_next_29 rfl rfl ?_
          refine z_getI (pc2 := 33) C dX11_next_30 fl_X11_62 (by first | exact hy.k _ | assumption) rfl ?_
          -- at 33: .iaload
          refine z_iald (pc2 := 34) (j := p) C dX11_next_33 (by first | exact hy.k _ | assumption) (by omega) (by omega) (by decide) rfl ?_
          rw [e38]
          refine w_bipush (pc2 := 36) (v := iI 32) C dX11_next_34 (by decide) rfl ?_
          -- at 36: .if_icmp .ne 16
          refine z_icmp_ne (pc2 := 39) (tgt := 52) C dX11_next_36 (by decide) rfl (by omega) (by omega) (fun q3 => ?_) (fun q3 => ?_)
          · exact fin p J2 (by omega) eJ v (by rw [hv]; exact nb_stop (by omega))
          · exact go (Or.inl q3)
  exact key (t - p) p J (by omega) (by rw [← hp, up2_self]) _ rfl
theorem s_X11_number (hy : Ly K R) {s : Nat → Int} {t p : Nat} {lo hi : Int} (hlo : R32 lo) (hhi : R32 hi) (hT : TxR J s t) (hp : J 34 5 = p) (hpt : p ≤ t) (hf : J 34 7 = 0) : S_X11_number [.ref 34, .int (iI lo), .int (iI hi)] n K (zw J) L R (fun r2 n2 K2 I2 L2 R2 => ∃ (J2 : wJn) (v : Int), Det (some (.int (iI v))) n K (zw J2) L R r2 n2 K2 I2 L2 R2 ∧ RnR J J2 s t p lo hi v) := by
  have h1 := hT.1
  have h2 := hT.2.1
  have h3 := h2.1
  have hql := nb_le (s := s) hpt
  have hdl := dgN_le s (nb s t p)
  have hde := dg_le h2 hql
  have hnv := nvF_bd3 s (nb s t p)
  refine Sp_intro [some (.ref 34), some (.int (iI lo)), some (.int (iI hi)), none] rfl rfl (Nat.le_of_ble_eq_true rfl) rfl ?_
  intro Γ C
  replace C : C_X11_number Γ := C
  generalize hpost : (fun (r2 : Option Value) (n2 : Nat) (K2 : wKd) (I2 : wIn) (L2 : wLn) (R2 : wRf) => ∃ (J2 : wJn) (v : Int), Det (some (.int (iI v))) n K (zw J2) L R r2 n2 K2 I2 L2 R2 ∧ RnR J J2 s t p lo hi v) = post
  have hnum : num s t p lo hi = (if dgN s (nb s t p) = 0 ∨ (48 ≤ s (nb s t p + dgN s (nb s t p)) ∧ s (nb s t p + dgN s (nb s t p)) ≤ 57) then .inl (1, nb s t p + dgN s (nb s t p)) else if nvF s (nb s t p) (dgN s (nb s t p)) < lo ∨ hi < nvF s (nb s t p) (dgN s (nb s t p)) then .inl (2, nb s t p) else .inr (nvF s (nb s t p) (dgN s (nb s t p)), nb s t p, nb s t p + dgN s (nb s t p))) := rfl
  generalize hq : nb s t p = q at *
  generalize hd : dgN s q = d at *
  have dge := dgN_end (s := s) (q := q)
  rw [hd] at dge
  -- a FAULT
  have bad : ∀ (J3 : wJn) (k : Int) (w : Nat) (v : Int), (∀ a, a ≠ 34 → J3 a = J a) → (∀ b, b ≠ 5 → b ≠ 9 → J3 34 b = J 34 b) → J3 34 5 = ((q + d : Nat) : Int) → (k = 1 ∨ k = 2) → num s t p lo hi = .inl (k, w) → (0 ≤ v ∧ v < 1000) → post (some (.int (iI v))) n K (zw (up2 (up2 J3 34 7 k) 34 8 w)) L R := by
    intro J3 k w v c0 cb c5 hk he hv
    rw [← hpost]
    refine ⟨_, v, DetI rfl rfl, fun a ha => by rw [up2_row ha, up2_row ha]; exact c0 a ha, fun b b5 b7 b8 b9 => by rw [up2_n _ _ _ _ (by omega), up2_n _ _ _ _ (by omega)]; exact cb b b5 b9, hv, ⟨q + d, hde, by rw [up2_n _ _ _ _ (by omega), up2_n _ _ _ _ (by omega)]; exact c5⟩, fun f hf2 => ?_, fun u q2 e2 hr => by rw [he] at hr; cases hr⟩
    rw [he] at hf2
    injection hf2 with hf2
    subst hf2
    exact ⟨by rw [up2_n _ _ _ _ (by omega), up2_s], by rw [up2_s], hk⟩
  have fin : ∀ J3 : wJn, (∀ a, a ≠ 34 → J3 a = J a) → (∀ b, b ≠ 5 → b ≠ 9 → J3 34 b = J 34 b) → J3 34 5 = ((q + d : Nat) : Int) → J3 34 9 = (q : Nat) → ¬ (48 ≤ s (q + d) ∧ s (q + d) ≤ 57) → wp Γ 0 0 (QQ Γ post) 96 [some (.ref 34), some (.int (iI lo)), some (.int (iI hi)), some (.int (iI (nvF s q d)))] [] n K (zw J3) L R := by
    intro J3 c0 cb c5 c9 hnd
    have c7 : J3 34 7 = 0 := by rw [cb 7 (by decide) (by decide)]; exact hf
    have fin2 : ¬ d = 0 → (nvF s q d < lo ∨ hi < nvF s q d) → wp Γ 0 0 (QQ Γ post) 129 [some (.ref 34), some (.int (iI lo)), some (.int (iI hi)), some (.int (iI (nvF s q d)))] [] n K (zw J3) L R := by
      intro hd0 hc2
      rw [if_neg (by omega), if_pos hc2] at hnum
      refine w_aload_n (pc2 := 130) C dX11_number_129 rfl rfl ?_
      refine w_iconst (pc2 := 131) (v := iI 2) C dX11_number_130 (by decide) rfl ?_
      refine w_aload_n (pc2 := 132) C dX11_number_131 rfl rfl ?_
      refine z_getI (pc2 := 135) C dX11_number_132 fl_X11_76 (by first | exact hy.k _ | assumption) rfl ?_
      -- at 135: .invokevirtual 72
      rw [c9]
      refine w_cVv (pc2 := 138)  C dX11_number_135 mb_X11_72 mv_X11_fail (s_X11_fail hy c7) (by first | exact hy.k _ | assumption) rfl (by decide) rfl rfl (Nat.le_of_ble_eq_true rfl) ⟨by decide, by decide⟩ ⟨rfl, rfl⟩ ⟨by decide, by decide⟩ rfl ?_
      refine w_iload_n (pc2 := 139) C dX11_number_138 rfl rfl ?_
      -- at 139: .ireturn
      exact w_iret C dX11_number_139 (by decide) (by decide) (bad J3 2 q _ c0 cb c5 (Or.inr rfl) hnum hnv)
    refine w_aload_n (pc2 := 97) C dX11_number_96 rfl rfl ?_
    refine z_getI (pc2 := 100) C dX11_number_97 fl_X11_62 (by first | exact hy.k _ | assumption) rfl ?_
    refine w_aload_n (pc2 := 101) C dX11_number_100 rfl rfl ?_
    refine z_getI (pc2 := 104) C dX11_number_101 fl_X11_76 (by first | exact hy.k _ | assumption) rfl ?_
    -- at 104: .if_icmp .ne 15
    refine z_icmp_ne (pc2 := 107) (tgt := 119) C dX11_number_104 (by decide) rfl (by omega) (by omega) (fun g1 => ?_) (fun g1 => ?_)
    · skip
      refine w_iload_n (pc2 := 120) C dX11_number_119 rfl rfl ?_
      refine w_iload_n (pc2 := 121) C dX11_number_120 rfl rfl ?_
      -- at 121: .if_icmp .lt 8
      refine z_icmp_lt (pc2 := 124) (tgt := 129) C dX11_number_121 (by decide) rfl (by omega) (by omega) (fun g2 => ?_) (fun g2 => ?_)
      · exact fin2 (by omega) (Or.inl g2)
      · skip
        refine w_iload_n (pc2 := 125) C dX11_number_124 rfl rfl ?_
        refine w_iload_n (pc2 := 126) C dX11_number_125 rfl rfl ?_
        -- at 126: .if_icmp .le 12
        refine z_icmp_le (pc2 := 129) (tgt := 138) C dX11_number_126 (by decide) rfl (by omega) (by omega) (fun g3 => ?_) (fun g3 => ?_)
        · rw [if_neg (by omega), if_neg (by omega)] at hnum
          refine w_iload_n (pc2 := 139) C dX11_number_138 rfl rfl ?_
          -- at 139: .ireturn
          exact w_iret C dX11_number_139 (by decide) (by decide) (by
            rw [← hpost]
            refine ⟨_, _, DetI rfl rfl, c0, fun b b5 b7 b8 b9 => cb b b5 b9, hnv, ⟨q + d, hde, c5⟩, fun f hf2 => (by rw [hnum] at hf2; cases hf2), fun u q2 e2 hr => ?_⟩
            rw [hnum] at hr
            injection hr with hr
            injection hr with y1 hr
            injection hr with y2 y3
            subst y1 y2 y3
            exact ⟨c7, cb 8 (by decide) (by decide), c5, c9, rfl⟩)
        · exact fin2 (by omega) (Or.inr (by omega))
    · rw [if_pos (by omega)] at hnum
      refine w_aload_n (pc2 := 108) C dX11_number_107 rfl rfl ?_
      refine w_iconst (pc2 := 109) (v := iI 1) C dX11_number_108 (by decide) rfl ?_
      refine w_aload_n (pc2 := 110) C dX11_number_109 rfl rfl ?_
      refine z_getI (pc2 := 113) C dX11_number_110 fl_X11_62 (by first | exact hy.k _ | assumption) rfl ?_
      -- at 113: .invokevirtual 72
      rw [c5]
      refine w_cVv (pc2 := 116)  C dX11_number_113 mb_X11_72 mv_X11_fail (s_X11_fail hy c7) (by first | exact hy.k _ | assumption) rfl (by decide) rfl rfl (Nat.le_of_ble_eq_true rfl) ⟨by decide, by decide⟩ ⟨rfl, rfl⟩ ⟨by decide, by decide⟩ rfl ?_
      refine w_goto (tgt := 138) C dX11_number_116 (by decide) ?_
      refine w_iload_n (pc2 := 139) C dX11_number_138 rfl rfl ?_
      -- at 139: .ireturn
      exact w_iret C dX11_number_139 (by decide) (by decide) (bad J3 1 (q + d) _ c0 cb c5 (Or.inl rfl) hnum hnv)
  have key : ∀ (f i : Nat) (J3 : wJn), i + f = d → (∀ a, a ≠ 34 → J3 a = J a) → (∀ b, b ≠ 5 → b ≠ 9 → J3 34 b = J 34 b) → J3 34 5 = ((q + i : Nat) : Int) → J3 34 9 = (q : Nat) → wp Γ 0 0 (QQ Γ post) 15 [some (.ref 34), some (.int (iI lo)), some (.int (iI hi)), some (.int (iI (nvF s q i)))] [] n K (zw J3) L R := by
    intro f
    induction f with
    | zero =>
      intro i J3 hi c0 cb c5 c9
      have e : i = d := by omega
      subst e
      have hb := h2.bd (q + i)
      have c6 : J3 34 6 = t := by rw [cb 6 (by decide) (by decide)]; exact h1
      have c7 : J3 34 7 = 0 := by rw [cb 7 (by decide) (by decide)]; exact hf
      refine w_aload_n (pc2 := 16) C dX11_number_15 rfl rfl ?_
      refine z_getI (pc2 := 19) C dX11_number_16 fl_X11_62 (by first | exact hy.k _ | assumption) rfl ?_
      refine w_aload_n (pc2 := 20) C dX11_number_19 rfl rfl ?_
      refine z_getI (pc2 := 23) C dX11_number_20 fl_X11_65 (by first | exact hy.k _ | assumption) rfl ?_
      -- at 23: .if_icmp .ge 73
      refine z_icmp_ge (pc2 := 26) (tgt := 96) C dX11_number_23 (by decide) rfl (by omega) (by omega) (fun g1 => ?_) (fun g1 => ?_)
      · exact fin J3 c0 cb c5 c9 (by have := h2.2.1 (q + i) (by omega); omega)
      · have c38 : J3 38 (q + i) = s (q + i) := by rw [c0 38 (by decide)]; exact hT.2.2 (q + i) (by omega)
        refine w_aload_n (pc2 := 27) C dX11_number_26 rfl rfl ?_
        refine w_getR (pc2 := 30) C dX11_number_27 fl_X11_21 (by first | exact hy.k _ | assumption) (by first | exact hy.r _ _ | assumption) rfl ?_
        refine w_aload_n (pc2 := 31) C dX11_number_30 rfl rfl ?_
        refine z_getI (pc2 := 34) C dX11_number_31 fl_X11_62 (by first | exact hy.k _ | assumption) rfl ?_
        -- at 34: .iaload
        refine z_iald (pc2 := 35) (j := q + i) C dX11_number_34 (by first | exact hy.k _ | assumption) (by omega) (by omega) (by decide) rfl ?_
        rw [c38]
        refine w_cSi (pc2 := 38)  C dX11_number_35 mb_X11_79 ms_X11_isDigit (s_X11_isDigit (by omega)) rfl rfl (Nat.le_of_ble_eq_true rfl) ⟨by decide, by decide⟩ ⟨rfl, rfl⟩ ⟨by decide, by decide⟩ rfl ?_
        -- at 38: .ifCond .eq 58
        refine z_if_eq (pc2 := 41) (tgt := 96) C dX11_number_38 (by decide) rfl (by split <;> omega) (fun g2 => ?_) (fun g2 => ?_)
        · exact fin J3 c0 cb c5 c9 (fun z => by rw [if_pos z] at g2; exact absurd g2 (by decide))
        · have g3 : 48 ≤ s (q + i) ∧ s (q + i) ≤ 57 := by
            rcases Decidable.em (48 ≤ s (q + i) ∧ s (q + i) ≤ 57) with z | z
            · exact z
            · rw [if_neg z] at g2; exact absurd rfl g2
          have hi3 : i = 3 := by
            rcases Nat.lt_or_ge i 3 with z | z
            · exact absurd g3 (dge z)
            · omega
          rw [if_pos (Or.inr g3)] at hnum
          refine w_aload_n (pc2 := 42) C dX11_number_41 rfl rfl ?_
          refine z_getI (pc2 := 45) C dX11_number_42 fl_X11_62 (by first | exact hy.k _ | assumption) rfl ?_
          refine w_aload_n (pc2 := 46) C dX11_number_45 rfl rfl ?_
          refine z_getI (pc2 := 49) C dX11_number_46 fl_X11_76 (by first | exact hy.k _ | assumption) rfl ?_
          refine z_isub (pc2 := 50) C dX11_number_49 rfl ?_
          refine w_iconst (pc2 := 51) (v := iI 3) C dX11_number_50 (by decide) rfl ?_
          -- at 51: .if_icmp .ne 14
          refine z_icmp_ne (pc2 := 54) (tgt := 65) C dX11_number_51 (by decide) rfl (by omega) (by omega) (fun g4 => ?_) (fun g4 => ?_)
          · exact absurd hi3 (by omega)
          · skip
            refine w_aload_n (pc2 := 55) C dX11_number_54 rfl rfl ?_
            refine w_iconst (pc2 := 56) (v := iI 1) C dX11_number_55 (by decide) rfl ?_
            refine w_aload_n (pc2 := 57) C dX11_number_56 rfl rfl ?_
            refine z_getI (pc2 := 60) C dX11_number_57 fl_X11_62 (by first | exact hy.k _ | assumption) rfl ?_
            -- at 60: .invokevirtual 72
            rw [c5]
            refine w_cVv (pc2 := 63)  C dX11_number_60 mb_X11_72 mv_X11_fail (s_X11_fail hy c7) (by first | exact hy.k _ | assumption) rfl (by decide) rfl rfl (Nat.le_of_ble_eq_true rfl) ⟨by decide, by decide⟩ ⟨rfl, rfl⟩ ⟨by decide, by decide⟩ rfl ?_
            refine w_iconst (pc2 := 64) (v := iI 0) C dX11_number_63 (by decide) rfl ?_
            -- at 64: .ireturn
            exact w_iret C dX11_number_64 (by decide) (by decide) (bad J3 1 (q + i) _ c0 cb c5 (Or.inl rfl) hnum (by omega))
    | succ f ih =>
      intro i J3 hi c0 cb c5 c9
      have hb := h2.bd (q + i)
      have c6 : J3 34 6 = t := by rw [cb 6 (by decide) (by decide)]; exact h1
      have hin := dgN_in (s := s) (q := q) i (by rw [hd]; omega)
      have hlt := h2.lt (p := q + i) (by omega)
      have c38 : J3 38 (q + i) = s (q + i) := by rw [c0 38 (by decide)]; exact hT.2.2 (q + i) hlt
      have hnv := ih (i + 1)
      rw [nvF] at hnv
      refine w_aload_n (pc2 := 16) C dX11_number_15 rfl rfl ?_
      refine z_getI (pc2 := 19) C dX11_number_16 fl_X11_62 (by first | exact hy.k _ | assumption) rfl ?_
      refine w_aload_n (pc2 := 20) C dX11_number_19 rfl rfl ?_
      refine z_getI (pc2 := 23) C dX11_number_20 fl_X11_65 (by first | exact hy.k _ | assumption) rfl ?_
      -- at 23: .if_icmp .ge 73
      refine z_icmp_ge (pc2 := 26) (tgt := 96) C dX11_number_23 (by decide) rfl (by omega) (by omega) (fun g1 => ?_) (fun g1 => ?_)
      · exact absurd hlt (by omega)
      · skip
        refine w_aload_n (pc2 := 27) C dX11_number_26 rfl rfl ?_
        refine w_getR (pc2 := 30) C dX11_number_27 fl_X11_21 (by first | exact hy.k _ | assumption) (by first | exact hy.r _ _ | assumption) rfl ?_
        refine w_aload_n (pc2 := 31) C dX11_number_30 rfl rfl ?_
        refine z_getI (pc2 := 34) C dX11_number_31 fl_X11_62 (by first | exact hy.k _ | assumption) rfl ?_
        -- at 34: .iaload
        refine z_iald (pc2 := 35) (j := q + i) C dX11_number_34 (by first | exact hy.k _ | assumption) (by omega) (by omega) (by decide) rfl ?_
        rw [c38]
        refine w_cSi (pc2 := 38)  C dX11_number_35 mb_X11_79 ms_X11_isDigit (s_X11_isDigit (by omega)) rfl rfl (Nat.le_of_ble_eq_true rfl) ⟨by decide, by decide⟩ ⟨rfl, rfl⟩ ⟨by decide, by decide⟩ rfl ?_
        -- at 38: .ifCond .eq 58
        rw [if_pos hin]
        refine z_if_eq (pc2 := 41) (tgt := 96) C dX11_number_38 (by decide) rfl (by omega) (fun g2 => ?_) (fun g2 => ?_)
        · exact absurd g2 (by decide)
        · skip
          refine w_aload_n (pc2 := 42) C dX11_number_41 rfl rfl ?_
          refine z_getI (pc2 := 45) C dX11_number_42 fl_X11_62 (by first | exact hy.k _ | assumption) rfl ?_
          refine w_aload_n (pc2 := 46) C dX11_number_45 rfl rfl ?_
          refine z_getI (pc2 := 49) C dX11_number_46 fl_X11_76 (by first | exact hy.k _ | assumption) rfl ?_
          refine z_isub (pc2 := 50) C dX11_number_49 rfl ?_
          refine w_iconst (pc2 := 51) (v := iI 3) C dX11_number_50 (by decide) rfl ?_
          -- at 51: .if_icmp .ne 14
          refine z_icmp_ne (pc2 := 54) (tgt := 65) C dX11_number_51 (by decide) rfl (by omega) (by omega) (fun g4 => ?_) (fun g4 => ?_)
          · skip
            refine w_bipush (pc2 := 67) (v := iI 10) C dX11_number_65 (by decide) rfl ?_
            refine w_iload_n (pc2 := 68) C dX11_number_67 rfl rfl ?_
            refine z_imul (pc2 := 69) C dX11_number_68 rfl ?_
            refine w_aload_n (pc2 := 70) C dX11_number_69 rfl rfl ?_
            refine w_getR (pc2 := 73) C dX11_number_70 fl_X11_21 (by first | exact hy.k _ | assumption) (by first | exact hy.r _ _ | assumption) rfl ?_
            refine w_aload_n (pc2 := 74) C dX11_number_73 rfl rfl ?_
            refine z_getI (pc2 := 77) C dX11_number_74 fl_X11_62 (by first | exact hy.k _ | assumption) rfl ?_
            -- at 77: .iaload
            refine z_iald (pc2 := 78) (j := q + i) C dX11_number_77 (by first | exact hy.k _ | assumption) (by omega) (by omega) (by decide) rfl ?_
            rw [c38]
            refine z_iadd (pc2 := 79) C dX11_number_78 rfl ?_
            refine w_bipush (pc2 := 81) (v := iI 48) C dX11_number_79 (by decide) rfl ?_
            refine z_isub (pc2 := 82) C dX11_number_81 rfl ?_
            refine w_istore_n (pc2 := 83) C dX11_number_82 rfl (by decide) rfl rfl ?_
            try dsimp only [List.set]
            refine w_aload_n (pc2 := 84) C dX11_number_83 rfl rfl ?_
            refine w_dup (pc2 := 85) C dX11_number_84 rfl rfl ?_
            refine z_getI (pc2 := 88) C dX11_number_85 fl_X11_62 (by first | exact hy.k _ | assumption) rfl ?_
            refine w_iconst (pc2 := 89) (v := iI 1) C dX11_number_88 (by decide) rfl ?_
            refine z_iadd (pc2 := 90) C dX11_number_89 rfl ?_
            refine z_putI (pc2 := 93) C dX11_number_90 fl_X11_62 (by first | exact hy.k _ | assumption) (by rfl) (by rfl) rfl ?_
            refine w_goto (tgt := 15) C dX11_number_93 (by decide) ?_
            -- at 15: .aload_n 0
            rw [show (10 * nvF s q i + s (q + i) - 48 : Int) = nvF s q i * 10 + s (q + i) - 48 by omega]
            exact hnv _ (by omega) (fun a ha => by rw [up2_row ha]; exact c0 a ha) (fun b b5 b9 => by rw [up2_n _ _ _ _ (by omega)]; exact cb b b5 b9) (by rw [up2_s, c5]; omega) (by rw [up2_n _ _ _ _ (by omega)]; exact c9)
          · exact absurd hi (by omega)
  refine w_aload_n (pc2 := 1) C dX11_number_0 rfl rfl ?_
  -- at 1: .invokevirtual 68
  refine w_cVi (pc2 := 4)  C dX11_number_1 mb_X11_68 mv_X11_next (s_X11_next hy hT hp hpt) (by first | exact hy.k _ | assumption) rfl (by decide) rfl rfl (Nat.le_of_ble_eq_true rfl) ⟨by decide, by decide⟩ ⟨rfl, rfl⟩ ⟨by decide, by decide⟩ rfl ?_
  rw [hq]
  refine w_pop (pc2 := 5) C dX11_number_4 rfl rfl ?_
  refine w_aload_n (pc2 := 6) C dX11_number_5 rfl rfl ?_
  refine w_aload_n (pc2 := 7) C dX11_number_6 rfl rfl ?_
  refine z_getI (pc2 := 10) C dX11_number_7 fl_X11_62 (by first | exact hy.k _ | assumption) rfl ?_
  refine z_putI (pc2 := 13) C dX11_number_10 fl_X11_76 (by first | exact hy.k _ | assumption) (by rfl) (by rfl) rfl ?_
  refine w_iconst (pc2 := 14) (v := iI 0) C dX11_number_13 (by decide) rfl ?_
  refine w_istore_n (pc2 := 15) C dX11_number_14 rfl (by decide) rfl rfl ?_
  try dsimp only [List.set]
  -- at 15: .aload_n 0
  rw [up2_s]
  exact key d 0 _ (by omega) (fun a ha => by rw [up2_row ha, up2_row ha]) (fun b b5 b9 => by rw [up2_n _ _ _ _ (by omega), up2_n _ _ _ _ (by omega)]) (by rw [up2_n _ _ _ _ (by omega), up2_s]; rfl) (by rw [up2_s])
end REF7
