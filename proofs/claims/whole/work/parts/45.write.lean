/-- the draft has grown by k STRIKES told by ft, fb -/
def Gr (J J2 : wJn) (c k : Nat) (ft fb : Nat → Int) : Prop := (∀ a, a ≠ 3 → a ≠ 4 → a ≠ 5 → a ≠ 6 → J2 a = J a) ∧ (∀ b, b ≠ 2 → J2 4 b = J 4 b) ∧ J2 4 2 = ((c + k : Nat) : Int) ∧ (∀ i, i < c → J2 5 i = J 5 i ∧ J2 6 i = J 6 i) ∧ (∀ i, i < k → J2 5 (c + i) = ft i ∧ J2 6 (c + i) = fb i)
/-- the i-th BELL of a mask, from below: by its rank -/
def rnk (m : Nat) (i : Nat) : Nat → Nat
  | 0 => 0
  | b + 1 => if m.testBit b = true ∧ popc m b = i then b else rnk m i b
theorem rnk_at {m i b : Nat} (h1 : m.testBit b = true) (h2 : popc m b = i) : ∀ c, b < c → rnk m i c = b
  | 0, h => absurd h (by omega)
  | c + 1, h => by
    by_cases e : b = c
    · subst e
      rw [rnk, if_pos ⟨h1, h2⟩]
    · have hlt : b < c := by omega
      have hmono : ∀ a, b < a → a ≤ c → i < popc m a := by
        intro a
        induction a with
        | zero => intro h; omega
        | succ a ih =>
          intro h3 h4
          by_cases e2 : b = a
          · subst e2
            rw [popc_s]
            simp only [h1, if_true]
            omega
          · have := ih (by omega) (by omega)
            rw [popc_s]
            omega
      have := hmono c hlt (Nat.le_refl c)
      rw [rnk, if_neg (fun q => by omega)]
      exact rnk_at h1 h2 c hlt
section WRITE
variable {n : Nat} {K : wKd} {J : wJn} {L : wLn} {R : wRf}
theorem s_X5_clear (hy : Ly K R) : S_X5_clear [.ref 4] n K (zw J) L R (Det none n K (zw (up2 (up2 J 4 2 0) 4 3 0)) L R) := by
  refine Sp_intro [some (.ref 4)] rfl rfl (Nat.le_of_ble_eq_true rfl) rfl ?_
  intro Γ C
  replace C : C_X5_clear Γ := C
  refine w_aload_n (pc2 := 1) C dX5_clear_0 rfl rfl ?_
  refine w_iconst (pc2 := 2) (v := iI 0) C dX5_clear_1 (by decide) rfl ?_
  refine z_putI (pc2 := 5) C dX5_clear_2 fl_X5_18 (by first | exact hy.k _ | assumption) (by rfl) (by rfl) rfl ?_
  refine w_aload_n (pc2 := 6) C dX5_clear_5 rfl rfl ?_
  refine w_iconst (pc2 := 7) (v := iI 0) C dX5_clear_6 (by decide) rfl ?_
  refine z_putI (pc2 := 10) C dX5_clear_7 fl_X5_22 (by first | exact hy.k _ | assumption) (by rfl) (by rfl) rfl ?_
  -- at 10: .return_
  exact w_ret C dX5_clear_10 (by decide) (by decide) (⟨rfl, rfl, rfl, rfl, rfl, rfl⟩)
theorem s_X5_addStrike (hy : Ly K R) {c : Nat} {a b : Int} (hc : J 4 2 = c) (hc2 : c < 100) : S_X5_addStrike [.ref 4, .int (iI a), .int (iI b)] n K (zw J) L R (Det none n K (zw (up2 (up2 (up2 J 5 c a) 6 c b) 4 2 ((c : Int) + 1))) L R) := by
  refine Sp_intro [some (.ref 4), some (.int (iI a)), some (.int (iI b))] rfl rfl (Nat.le_of_ble_eq_true rfl) rfl ?_
  intro Γ C
  replace C : C_X5_addStrike Γ := C
  refine w_aload_n (pc2 := 1) C dX5_addStrike_0 rfl rfl ?_
  refine z_getI (pc2 := 4) C dX5_addStrike_1 fl_X5_18 (by first | exact hy.k _ | assumption) rfl ?_
  refine w_bipush (pc2 := 6) (v := iI 100) C dX5_addStrike_4 (by decide) rfl ?_
  -- at 6: .if_icmp .ge 33
  refine z_icmp_ge (pc2 := 9) (tgt := 39) C dX5_addStrike_6 (by decide) rfl (by omega) (by omega) (fun h1 => ?_) (fun h1 => ?_)
  · exact absurd h1 (by omega)
  · skip
    refine w_aload_n (pc2 := 10) C dX5_addStrike_9 rfl rfl ?_
    refine w_getR (pc2 := 13) C dX5_addStrike_10 fl_X5_9 (by first | exact hy.k _ | assumption) (by first | exact hy.r _ _ | assumption) rfl ?_
    refine w_aload_n (pc2 := 14) C dX5_addStrike_13 rfl rfl ?_
    refine z_getI (pc2 := 17) C dX5_addStrike_14 fl_X5_18 (by first | exact hy.k _ | assumption) rfl ?_
    refine w_iload_n (pc2 := 18) C dX5_addStrike_17 rfl rfl ?_
    -- at 18: .iastore
    rw [hc]
    refine z_iast (pc2 := 19) (j := c) C dX5_addStrike_18 (by first | exact hy.k _ | assumption) (by omega) (by omega) (by decide) rfl ?_
    refine w_aload_n (pc2 := 20) C dX5_addStrike_19 rfl rfl ?_
    refine w_getR (pc2 := 23) C dX5_addStrike_20 fl_X5_15 (by first | exact hy.k _ | assumption) (by first | exact hy.r _ _ | assumption) rfl ?_
    refine w_aload_n (pc2 := 24) C dX5_addStrike_23 rfl rfl ?_
    refine z_getI (pc2 := 27) C dX5_addStrike_24 fl_X5_18 (by first | exact hy.k _ | assumption) rfl ?_
    refine w_iload_n (pc2 := 28) C dX5_addStrike_27 rfl rfl ?_
    -- at 28: .iastore
    rw [show up2 J 5 c a 4 2 = (c : Int) by rw [up2_row (by decide)]; exact hc]
    refine z_iast (pc2 := 29) (j := c) C dX5_addStrike_28 (by first | exact hy.k _ | assumption) (by omega) (by omega) (by decide) rfl ?_
    refine w_aload_n (pc2 := 30) C dX5_addStrike_29 rfl rfl ?_
    refine w_dup (pc2 := 31) C dX5_addStrike_30 rfl rfl ?_
    refine z_getI (pc2 := 34) C dX5_addStrike_31 fl_X5_18 (by first | exact hy.k _ | assumption) rfl ?_
    refine w_iconst (pc2 := 35) (v := iI 1) C dX5_addStrike_34 (by decide) rfl ?_
    refine z_iadd (pc2 := 36) C dX5_addStrike_35 rfl ?_
    refine z_putI (pc2 := 39) C dX5_addStrike_36 fl_X5_18 (by first | exact hy.k _ | assumption) (by rfl) (by rfl) rfl ?_
    -- at 39: .return_
    rw [show up2 (up2 J 5 c a) 6 c b 4 2 = (c : Int) by rw [up2_row (by decide), up2_row (by decide)]; exact hc]
    exact w_ret C dX5_addStrike_39 (by decide) (by decide) (⟨rfl, rfl, rfl, rfl, rfl, rfl⟩)
theorem Gr.add {J J2 : wJn} {c k : Nat} {ft fb : Nat → Int} (h : Gr J J2 c k ft fb) : Gr J (up2 (up2 (up2 J2 5 (c + k) (ft k)) 6 (c + k) (fb k)) 4 2 (((c + k : Nat) : Int) + 1)) c (k + 1) ft fb := by
  obtain ⟨h1, h2, h3, h4, h5⟩ := h
  have r5 : ∀ x y z w, up2 (up2 (up2 J2 5 (c + k) x) 6 (c + k) y) 4 2 z 5 w = up2 J2 5 (c + k) x 5 w := fun x y z w => by rw [up2_row (by decide), up2_row (by decide)]
  have r6 : ∀ x y z w, up2 (up2 (up2 J2 5 (c + k) x) 6 (c + k) y) 4 2 z 6 w = up2 J2 6 (c + k) y 6 w := fun x y z w => by rw [up2_row (by decide)]; simp only [up2]; simp
  refine ⟨fun a a3 a4 a5 a6 => by rw [up2_row a4, up2_row a6, up2_row a5]; exact h1 a a3 a4 a5 a6, fun b hb => by rw [up2_n _ _ _ _ (by omega), up2_row (by decide), up2_row (by decide)]; exact h2 b hb, by rw [up2_s]; omega, fun i hi => ?_, fun i hi => ?_⟩
  · rw [r5, r6, up2_n _ _ _ _ (by omega), up2_n _ _ _ _ (by omega)]
    exact h4 i hi
  · rw [r5, r6]
    by_cases e : i = k
    · subst e; rw [up2_s, up2_s]; exact ⟨rfl, rfl⟩
    · rw [up2_n _ _ _ _ (by omega), up2_n _ _ _ _ (by omega)]
      exact h5 i (by omega)
def ft1 (J : wJn) : Nat → Int := fun i => J 3 12 + i
def fb1 (J : wJn) : Nat → Int := fun i => if i % 2 = 0 then J 3 13 else J 3 14
def WrI (J J2 : wJn) (c k : Nat) (ft fb : Nat → Int) : Prop := Gr J J2 c k ft fb ∧ (∀ b, b ≠ 12 → J2 3 b = J 3 b) ∧ J2 3 12 = J 3 12 + J 3 11
theorem s_X4_writeItem1 (hy : Ly K R) {c l : Nat} {q : Int} (hc : J 4 2 = c) (hc2 : c ≤ 100) (hl : J 3 11 = l) (hl2 : l ≤ 64) (hf : J 3 1 = 0) : S_X4_writeItem [.ref 3, .int (iI 1), .int (iI q)] n K (zw J) L R (fun r2 n2 K2 I2 L2 R2 => (100 < c + l ∧ Det none n K (zw (flJ J 4 q)) L R r2 n2 K2 I2 L2 R2) ∨ (c + l ≤ 100 ∧ ∃ J2 : wJn, Det none n K (zw J2) L R r2 n2 K2 I2 L2 R2 ∧ WrI J J2 c l (ft1 J) (fb1 J))) := by
  refine Sp_intro [some (.ref 3), some (.int (iI 1)), some (.int (iI q)), none, none] rfl rfl (Nat.le_of_ble_eq_true rfl) rfl ?_
  intro Γ C
  replace C : C_X4_writeItem Γ := C
  generalize hpost : (fun (r2 : Option Value) (n2 : Nat) (K2 : wKd) (I2 : wIn) (L2 : wLn) (R2 : wRf) => (100 < c + l ∧ Det none n K (zw (flJ J 4 q)) L R r2 n2 K2 I2 L2 R2) ∨ (c + l ≤ 100 ∧ ∃ J2 : wJn, Det none n K (zw J2) L R r2 n2 K2 I2 L2 R2 ∧ WrI J J2 c l (ft1 J) (fb1 J))) = post
  have key : c + l ≤ 100 → ∀ (d i : Nat) (J2 : wJn), i + d = l → Gr J J2 c i (ft1 J) (fb1 J) → J2 3 = J 3 → wp Γ 0 0 (QQ Γ post) 47 [some (.ref 3), some (.int (iI 1)), some (.int (iI q)), some (.int (iI l)), some (.int (iI i))] [] n K (zw J2) L R := by
    intro hcl d
    induction d with
    | zero =>
      intro i J2 hi hg h3
      refine w_iload (pc2 := 49) C dX4_writeItem_47 rfl rfl ?_
      refine w_aload_n (pc2 := 50) C dX4_writeItem_49 rfl rfl ?_
      refine z_getI (pc2 := 53) C dX4_writeItem_50 fl_X4_83 (by first | exact hy.k _ | assumption) rfl ?_
      -- at 53: .if_icmp .ge 41
      rw [h3]
      refine z_icmp_ge (pc2 := 56) (tgt := 94) C dX4_writeItem_53 (by decide) rfl (by omega) (by omega) (fun g1 => ?_) (fun g1 => ?_)
      · skip
        refine w_goto (tgt := 138) C dX4_writeItem_94 (by decide) ?_
        refine w_aload_n (pc2 := 139) C dX4_writeItem_138 rfl rfl ?_
        refine w_dup (pc2 := 140) C dX4_writeItem_139 rfl rfl ?_
        refine z_getI (pc2 := 143) C dX4_writeItem_140 fl_X4_71 (by first | exact hy.k _ | assumption) rfl ?_
        refine w_aload_n (pc2 := 144) C dX4_writeItem_143 rfl rfl ?_
        refine z_getI (pc2 := 147) C dX4_writeItem_144 fl_X4_83 (by first | exact hy.k _ | assumption) rfl ?_
        refine z_iadd (pc2 := 148) C dX4_writeItem_147 rfl ?_
        refine z_putI (pc2 := 151) C dX4_writeItem_148 fl_X4_71 (by first | exact hy.k _ | assumption) (by rfl) (by rfl) rfl ?_
        -- at 151: .return_
        exact w_ret C dX4_writeItem_151 (by decide) (by decide) (by
          rw [← hpost]
          refine Or.inr ⟨hcl, _, DetI rfl rfl, ?_, fun b hb => by rw [up2_n _ _ _ _ (by omega), h3], by rw [up2_s, h3]⟩
          obtain ⟨a1, a2, a3, a4, a5⟩ := hg
          rw [show i = l by omega] at a3 a5
          exact ⟨fun a e3 e4 e5 e6 => by rw [up2_row e3]; exact a1 a e3 e4 e5 e6, fun b hb => by rw [up2_row (by decide)]; exact a2 b hb, by rw [up2_row (by decide)]; exact a3, fun j hj => by rw [up2_row (by decide), up2_row (by decide)]; exact a4 j hj, fun j hj => by rw [up2_row (by decide), up2_row (by decide)]; exact a5 j hj⟩)
      · exact absurd hi (by omega)
    | succ d ih =>
      intro i J2 hi hg h3
      have fin : ∀ v : Int, v = fb1 J i → wp Γ 0 0 (QQ Γ post) 85 [some (.ref 3), some (.int (iI 1)), some (.int (iI q)), some (.int (iI l)), some (.int (iI i))] [.int (iI v), .int (iI (J 3 12 + i)), .ref 4] n K (zw J2) L R := by
        intro v hv
        subst hv
        refine w_cVv (pc2 := 88)  C dX4_writeItem_85 mb_X4_128 mv_X5_addStrike (s_X5_addStrike hy hg.2.2.1 (by omega)) (by first | exact hy.k _ | assumption) rfl (by decide) rfl rfl (Nat.le_of_ble_eq_true rfl) ⟨by decide, by decide⟩ ⟨rfl, rfl⟩ ⟨by decide, by decide⟩ rfl ?_
        refine w_iinc (pc2 := 91) C dX4_writeItem_88 rfl (iI_add _ _) rfl (by decide) rfl rfl ?_
        try dsimp only [List.set]
        refine w_goto (tgt := 47) C dX4_writeItem_91 (by decide) ?_
        -- at 47: .iload 4
        refine ih (i + 1) _ (by omega) hg.add ?_
        rw [up2_row (by decide), up2_row (by decide), up2_row (by decide)]; exact h3
      refine w_iload (pc2 := 49) C dX4_writeItem_47 rfl rfl ?_
      refine w_aload_n (pc2 := 50) C dX4_writeItem_49 rfl rfl ?_
      refine z_getI (pc2 := 53) C dX4_writeItem_50 fl_X4_83 (by first | exact hy.k _ | assumption) rfl ?_
      -- at 53: .if_icmp .ge 41
      rw [h3]
      refine z_icmp_ge (pc2 := 56) (tgt := 94) C dX4_writeItem_53 (by decide) rfl (by omega) (by omega) (fun g1 => ?_) (fun g1 => ?_)
      · exact absurd hi (by omega)
      · skip
        refine w_aload_n (pc2 := 57) C dX4_writeItem_56 rfl rfl ?_
        refine w_getR (pc2 := 60) C dX4_writeItem_57 fl_X4_12 (by first | exact hy.k _ | assumption) (by first | exact hy.r _ _ | assumption) rfl ?_
        refine w_aload_n (pc2 := 61) C dX4_writeItem_60 rfl rfl ?_
        refine z_getI (pc2 := 64) C dX4_writeItem_61 fl_X4_71 (by first | exact hy.k _ | assumption) rfl ?_
        refine w_iload (pc2 := 66) C dX4_writeItem_64 rfl rfl ?_
        refine z_iadd (pc2 := 67) C dX4_writeItem_66 rfl ?_
        refine w_iload (pc2 := 69) C dX4_writeItem_67 rfl rfl ?_
        refine w_iconst (pc2 := 70) (v := iI 1) C dX4_writeItem_69 (by decide) rfl ?_
        refine w_iand (pc2 := 71) C dX4_writeItem_70 rfl ?_
        -- at 71: .ifCond .ne 10
        have e : (iI (i : Int) &&& iI 1) = iI ((i % 2 : Nat) : Int) := by
          rw [show iI (i : Int) = nI i from rfl, show iI 1 = nI 1 from rfl, fa_and, Nat.and_one_is_mod]; rfl
        rw [e, h3]
        refine z_if_ne (pc2 := 74) (tgt := 81) C dX4_writeItem_71 (by decide) rfl (by omega) (fun g2 => ?_) (fun g2 => ?_)
        · skip
          refine w_aload_n (pc2 := 82) C dX4_writeItem_81 rfl rfl ?_
          refine z_getI (pc2 := 85) C dX4_writeItem_82 fl_X4_106 (by first | exact hy.k _ | assumption) rfl ?_
          -- at 85: .invokevirtual 128
          rw [h3]
          exact fin _ (by unfold fb1; rw [if_neg (by omega)])
        · skip
          refine w_aload_n (pc2 := 75) C dX4_writeItem_74 rfl rfl ?_
          refine z_getI (pc2 := 78) C dX4_writeItem_75 fl_X4_103 (by first | exact hy.k _ | assumption) rfl ?_
          refine w_goto (tgt := 85) C dX4_writeItem_78 (by decide) ?_
          -- at 85: .invokevirtual 128
          rw [h3]
          exact fin _ (by unfold fb1; rw [if_pos (by omega)])
  refine w_iload_n (pc2 := 1) C dX4_writeItem_0 rfl rfl ?_
  -- at 1: .ifCond .eq 10
  refine z_if_eq (pc2 := 4) (tgt := 11) C dX4_writeItem_1 (by decide) rfl (by omega) (fun g1 => ?_) (fun g1 => ?_)
  · exact absurd g1 (by decide)
  · skip
    refine w_aload_n (pc2 := 5) C dX4_writeItem_4 rfl rfl ?_
    refine z_getI (pc2 := 8) C dX4_writeItem_5 fl_X4_83 (by first | exact hy.k _ | assumption) rfl ?_
    refine w_goto (tgt := 18) C dX4_writeItem_8 (by decide) ?_
    refine w_istore_n (pc2 := 19) C dX4_writeItem_18 rfl (by decide) rfl rfl ?_
    try dsimp only [List.set]
    refine w_aload_n (pc2 := 20) C dX4_writeItem_19 rfl rfl ?_
    refine w_getR (pc2 := 23) C dX4_writeItem_20 fl_X4_12 (by first | exact hy.k _ | assumption) (by first | exact hy.r _ _ | assumption) rfl ?_
    refine z_getI (pc2 := 26) C dX4_writeItem_23 fl_X4_125 (by first | exact hy.k _ | assumption) rfl ?_
    refine w_iload_n (pc2 := 27) C dX4_writeItem_26 rfl rfl ?_
    refine z_iadd (pc2 := 28) C dX4_writeItem_27 rfl ?_
    refine w_bipush (pc2 := 30) (v := iI 100) C dX4_writeItem_28 (by decide) rfl ?_
    -- at 30: .if_icmp .le 10
    rw [hc, hl]
    refine z_icmp_le (pc2 := 33) (tgt := 40) C dX4_writeItem_30 (by decide) rfl (by omega) (by omega) (fun g2 => ?_) (fun g2 => ?_)
    · skip
      refine w_iload_n (pc2 := 41) C dX4_writeItem_40 rfl rfl ?_
      -- at 41: .ifCond .eq 56
      refine z_if_eq (pc2 := 44) (tgt := 97) C dX4_writeItem_41 (by decide) rfl (by omega) (fun g3 => ?_) (fun g3 => ?_)
      · exact absurd g3 (by decide)
      · skip
        refine w_iconst (pc2 := 45) (v := iI 0) C dX4_writeItem_44 (by decide) rfl ?_
        refine w_istore (pc2 := 47) C dX4_writeItem_45 rfl (by decide) rfl rfl ?_
        try dsimp only [List.set]
        -- at 47: .iload 4
        exact key (by omega) l 0 J (by omega) ⟨fun _ _ _ _ _ => rfl, fun _ _ => rfl, by rw [hc]; rfl, fun _ _ => ⟨rfl, rfl⟩, fun i hi => absurd hi (by omega)⟩ rfl
    · skip
      refine w_aload_n (pc2 := 34) C dX4_writeItem_33 rfl rfl ?_
      refine w_iconst (pc2 := 35) (v := iI 4) C dX4_writeItem_34 (by decide) rfl ?_
      refine w_iload_n (pc2 := 36) C dX4_writeItem_35 rfl rfl ?_
      -- at 36: .invokevirtual 64
      refine w_cVv (pc2 := 39)  C dX4_writeItem_36 mb_X4_64 mv_X4_fail (s_X4_fail hy (by omega)) (by first | exact hy.k _ | assumption) rfl (by decide) rfl rfl (Nat.le_of_ble_eq_true rfl) ⟨by decide, by decide⟩ ⟨rfl, rfl⟩ ⟨by decide, by decide⟩ rfl ?_
      -- at 39: .return_
      exact w_ret C dX4_writeItem_39 (by decide) (by decide) (by rw [← hpost]; exact Or.inl ⟨by omega, DetI rfl rfl⟩)
theorem s_X4_writeItem0 (hy : Ly K R) {c l m : Nat} {q : Int} (hc : J 4 2 = c) (hc2 : c ≤ 100) (hl : J 3 11 = l) (hl2 : l ≤ 64) (hf : J 3 1 = 0) (hm : Msk (J 3 15) m) : S_X4_writeItem [.ref 3, .int (iI 0), .int (iI q)] n K (zw J) L R (fun r2 n2 K2 I2 L2 R2 => (100 < c + popc m 24 ∧ Det none n K (zw (flJ J 4 q)) L R r2 n2 K2 I2 L2 R2) ∨ (c + popc m 24 ≤ 100 ∧ ∃ J2 : wJn, Det none n K (zw J2) L R r2 n2 K2 I2 L2 R2 ∧ WrI J J2 c (popc m 24) (fun _ => J 3 12) (fun i => (rnk m i 24 : Nat)))) := by
  obtain ⟨hm1, hm2, hm3⟩ := hm
  refine Sp_intro [some (.ref 3), some (.int (iI 0)), some (.int (iI q)), none, none] rfl rfl (Nat.le_of_ble_eq_true rfl) rfl ?_
  intro Γ C
  replace C : C_X4_writeItem Γ := C
  generalize hpost : (fun (r2 : Option Value) (n2 : Nat) (K2 : wKd) (I2 : wIn) (L2 : wLn) (R2 : wRf) => (100 < c + popc m 24 ∧ Det none n K (zw (flJ J 4 q)) L R r2 n2 K2 I2 L2 R2) ∨ (c + popc m 24 ≤ 100 ∧ ∃ J2 : wJn, Det none n K (zw J2) L R r2 n2 K2 I2 L2 R2 ∧ WrI J J2 c (popc m 24) (fun _ => J 3 12) (fun i => (rnk m i 24 : Nat)))) = post
  have hmn : ∀ a b, a ≤ b → popc m a ≤ popc m b := by
    intro a b
    induction b with
    | zero => intro h; rw [show a = 0 by omega]; exact Nat.le_refl _
    | succ b ih =>
      intro h
      by_cases e : a = b + 1
      · subst e; exact Nat.le_refl _
      · have := ih (by omega)
        rw [popc_s]; omega
  have key : c + popc m 24 ≤ 100 → ∀ (d b : Nat) (J2 : wJn), b + d = 24 → Gr J J2 c (popc m b) (fun _ => J 3 12) (fun i => (rnk m i 24 : Nat)) → J2 3 = J 3 → wp Γ 0 0 (QQ Γ post) 100 [some (.ref 3), some (.int (iI 0)), some (.int (iI q)), none, some (.int (iI b))] [] n K (zw J2) L R := by
    intro hcl d
    induction d with
    | zero =>
      intro i J2 hi hg h3
      refine w_iload (pc2 := 102) C dX4_writeItem_100 rfl rfl ?_
      refine w_bipush (pc2 := 104) (v := iI 24) C dX4_writeItem_102 (by decide) rfl ?_
      -- at 104: .if_icmp .ge 34
      refine z_icmp_ge (pc2 := 107) (tgt := 138) C dX4_writeItem_104 (by decide) rfl (by omega) (by omega) (fun g1 => ?_) (fun g1 => ?_)
      · skip
        refine w_aload_n (pc2 := 139) C dX4_writeItem_138 rfl rfl ?_
        refine w_dup (pc2 := 140) C dX4_writeItem_139 rfl rfl ?_
        refine z_getI (pc2 := 143) C dX4_writeItem_140 fl_X4_71 (by first | exact hy.k _ | assumption) rfl ?_
        refine w_aload_n (pc2 := 144) C dX4_writeItem_143 rfl rfl ?_
        refine z_getI (pc2 := 147) C dX4_writeItem_144 fl_X4_83 (by first | exact hy.k _ | assumption) rfl ?_
        refine z_iadd (pc2 := 148) C dX4_writeItem_147 rfl ?_
        refine z_putI (pc2 := 151) C dX4_writeItem_148 fl_X4_71 (by first | exact hy.k _ | assumption) (by rfl) (by rfl) rfl ?_
        -- at 151: .return_
        exact w_ret C dX4_writeItem_151 (by decide) (by decide) (by
          rw [← hpost]
          refine Or.inr ⟨hcl, _, DetI rfl rfl, ?_, fun b hb => by rw [up2_n _ _ _ _ (by omega), h3], by rw [up2_s, h3]⟩
          obtain ⟨a1, a2, a3, a4, a5⟩ := hg
          rw [show i = 24 by omega] at a3 a5
          exact ⟨fun a e3 e4 e5 e6 => by rw [up2_row e3]; exact a1 a e3 e4 e5 e6, fun b hb => by rw [up2_row (by decide)]; exact a2 b hb, by rw [up2_row (by decide)]; exact a3, fun j hj => by rw [up2_row (by decide), up2_row (by decide)]; exact a4 j hj, fun j hj => by rw [up2_row (by decide), up2_row (by decide)]; exact a5 j hj⟩)
      · exact absurd hi (by omega)
    | succ d ih =>
      intro b J2 hi hg h3
      have h4 := hmn b 24 (by omega)
      have h5 := hmn (b + 1) 24 (by omega)
      have hps := popc_s m b
      refine w_iload (pc2 := 102) C dX4_writeItem_100 rfl rfl ?_
      refine w_bipush (pc2 := 104) (v := iI 24) C dX4_writeItem_102 (by decide) rfl ?_
      -- at 104: .if_icmp .ge 34
      refine z_icmp_ge (pc2 := 107) (tgt := 138) C dX4_writeItem_104 (by decide) rfl (by omega) (by omega) (fun g1 => ?_) (fun g1 => ?_)
      · exact absurd hi (by omega)
      · skip
        refine w_aload_n (pc2 := 108) C dX4_writeItem_107 rfl rfl ?_
        refine z_getI (pc2 := 111) C dX4_writeItem_108 fl_X4_94 (by first | exact hy.k _ | assumption) rfl ?_
        refine w_iload (pc2 := 113) C dX4_writeItem_111 rfl rfl ?_
        refine w_ishr (pc2 := 114) C dX4_writeItem_113 rfl ?_
        refine w_iconst (pc2 := 115) (v := iI 1) C dX4_writeItem_114 (by decide) rfl ?_
        refine w_iand (pc2 := 116) C dX4_writeItem_115 rfl ?_
        -- at 116: .ifCond .eq 16
        rw [h3, hm1]
        refine w_if_eq (pc2 := 119) (tgt := 132) C dX4_writeItem_116 (by decide) rfl (fun g2 => ?_) (fun g2 => ?_)
        · have hb : m.testBit b = false := (shr_bit hm2 (by omega)).mp g2
          simp only [hb] at hps
          refine w_iinc (pc2 := 135) C dX4_writeItem_132 rfl (iI_add _ _) rfl (by decide) rfl rfl ?_
          try dsimp only [List.set]
          refine w_goto (tgt := 100) C dX4_writeItem_135 (by decide) ?_
          -- at 100: .iload 4
          refine ih (b + 1) J2 (by omega) ?_ h3
          rw [hps]; exact hg
        · have hb : m.testBit b = true := by
            rcases hq : m.testBit b with _ | _
            · exact absurd ((shr_bit hm2 (by omega)).mpr hq) g2
            · rfl
          simp only [hb, if_true] at hps
          refine w_aload_n (pc2 := 120) C dX4_writeItem_119 rfl rfl ?_
          refine w_getR (pc2 := 123) C dX4_writeItem_120 fl_X4_12 (by first | exact hy.k _ | assumption) (by first | exact hy.r _ _ | assumption) rfl ?_
          refine w_aload_n (pc2 := 124) C dX4_writeItem_123 rfl rfl ?_
          refine z_getI (pc2 := 127) C dX4_writeItem_124 fl_X4_71 (by first | exact hy.k _ | assumption) rfl ?_
          refine w_iload (pc2 := 129) C dX4_writeItem_127 rfl rfl ?_
          -- at 129: .invokevirtual 128
          rw [h3]
          refine w_cVv (pc2 := 132)  C dX4_writeItem_129 mb_X4_128 mv_X5_addStrike (s_X5_addStrike hy hg.2.2.1 (by omega)) (by first | exact hy.k _ | assumption) rfl (by decide) rfl rfl (Nat.le_of_ble_eq_true rfl) ⟨by decide, by decide⟩ ⟨rfl, rfl⟩ ⟨by decide, by decide⟩ rfl ?_
          refine w_iinc (pc2 := 135) C dX4_writeItem_132 rfl (iI_add _ _) rfl (by decide) rfl rfl ?_
          try dsimp only [List.set]
          refine w_goto (tgt := 100) C dX4_writeItem_135 (by decide) ?_
          -- at 100: .iload 4
          refine ih (b + 1) _ (by omega) ?_ (by rw [up2_row (by decide), up2_row (by decide), up2_row (by decide)]; exact h3)
          have hgr := hg.add
          simp only [rnk_at hb rfl 24 (show b < 24 by omega)] at hgr
          rw [hps]; exact hgr
  refine w_iload_n (pc2 := 1) C dX4_writeItem_0 rfl rfl ?_
  -- at 1: .ifCond .eq 10
  refine z_if_eq (pc2 := 4) (tgt := 11) C dX4_writeItem_1 (by decide) rfl (by omega) (fun g1 => ?_) (fun g1 => ?_)
  · skip
    refine w_aload_n (pc2 := 12) C dX4_writeItem_11 rfl rfl ?_
    refine z_getI (pc2 := 15) C dX4_writeItem_12 fl_X4_94 (by first | exact hy.k _ | assumption) rfl ?_
    -- at 15: .invokestatic 116
    rw [hm1]
    refine w_cSi (pc2 := 18)  C dX4_writeItem_15 mb_X4_116 ms_J6_bitCount_0f7a4 (s_bitCount) rfl rfl (Nat.le_of_ble_eq_true rfl) ⟨by decide, by decide⟩ ⟨rfl, rfl⟩ ⟨by decide, by decide⟩ rfl ?_
    rw [bc_ok hm2 hm3]
    refine w_istore_n (pc2 := 19) C dX4_writeItem_18 rfl (by decide) rfl rfl ?_
    try dsimp only [List.set]
    refine w_aload_n (pc2 := 20) C dX4_writeItem_19 rfl rfl ?_
    refine w_getR (pc2 := 23) C dX4_writeItem_20 fl_X4_12 (by first | exact hy.k _ | assumption) (by first | exact hy.r _ _ | assumption) rfl ?_
    refine z_getI (pc2 := 26) C dX4_writeItem_23 fl_X4_125 (by first | exact hy.k _ | assumption) rfl ?_
    refine w_iload_n (pc2 := 27) C dX4_writeItem_26 rfl rfl ?_
    refine z_iadd (pc2 := 28) C dX4_writeItem_27 rfl ?_
    refine w_bipush (pc2 := 30) (v := iI 100) C dX4_writeItem_28 (by decide) rfl ?_
    -- at 30: .if_icmp .le 10
    rw [hc]
    refine z_icmp_le (pc2 := 33) (tgt := 40) C dX4_writeItem_30 (by decide) rfl (by omega) (by omega) (fun g2 => ?_) (fun g2 => ?_)
    · skip
      refine w_iload_n (pc2 := 41) C dX4_writeItem_40 rfl rfl ?_
      -- at 41: .ifCond .eq 56
      refine z_if_eq (pc2 := 44) (tgt := 97) C dX4_writeItem_41 (by decide) rfl (by omega) (fun g3 => ?_) (fun g3 => ?_)
      · skip
        refine w_iconst (pc2 := 98) (v := iI 0) C dX4_writeItem_97 (by decide) rfl ?_
        refine w_istore (pc2 := 100) C dX4_writeItem_98 rfl (by decide) rfl rfl ?_
        try dsimp only [List.set]
        -- at 100: .iload 4
        exact w_drop (key (by omega) 24 0 J (by omega) ⟨fun _ _ _ _ _ => rfl, fun _ _ => rfl, by rw [hc]; rfl, fun _ _ => ⟨rfl, rfl⟩, fun i hi => absurd hi (by show ¬ i < popc m 0; simp [popc, cntN])⟩ rfl) ⟨rfl, rfl, rfl, rfl, trivial⟩
      · exact absurd rfl g3
    · skip
      refine w_aload_n (pc2 := 34) C dX4_writeItem_33 rfl rfl ?_
      refine w_iconst (pc2 := 35) (v := iI 4) C dX4_writeItem_34 (by decide) rfl ?_
      refine w_iload_n (pc2 := 36) C dX4_writeItem_35 rfl rfl ?_
      -- at 36: .invokevirtual 64
      refine w_cVv (pc2 := 39)  C dX4_writeItem_36 mb_X4_64 mv_X4_fail (s_X4_fail hy (by omega)) (by first | exact hy.k _ | assumption) rfl (by decide) rfl rfl (Nat.le_of_ble_eq_true rfl) ⟨by decide, by decide⟩ ⟨rfl, rfl⟩ ⟨by decide, by decide⟩ rfl ?_
      -- at 39: .return_
      exact w_ret C dX4_writeItem_39 (by decide) (by decide) (by rw [← hpost]; exact Or.inl ⟨by omega, DetI rfl rfl⟩)
  · exact absurd rfl g1
end WRITE
