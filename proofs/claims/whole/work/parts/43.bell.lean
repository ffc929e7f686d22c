theorem fk1_0 {J : wJn} {r : Flt ⊕ (Int × Nat × Nat)} (h : J 3 1 = 0) : fk1 J r = (match r with
  | .inl f => f.1
  | .inr _ => 0) := if_pos h
theorem fp1_0 {J : wJn} {r : Flt ⊕ (Int × Nat × Nat)} (h : J 3 1 = 0) : fp1 J r = (match r with
  | .inl f => (f.2 : Int)
  | .inr _ => J 3 2) := if_pos h
theorem num_k {s : Nat → Int} {t p : Nat} {lo hi : Int} {f : Flt} (h : num s t p lo hi = .inl f) : f.1 = 1 ∨ f.1 = 2 := by
  unfold num at h
  split at h
  · injection h with h; rw [← h]; exact Or.inl rfl
  · split at h
    · injection h with h; rw [← h]; exact Or.inr rfl
    · cases h
theorem fk1_n {J : wJn} {r : Flt ⊕ (Int × Nat × Nat)} (h : ¬ J 3 1 = 0) : fk1 J r = J 3 1 := if_neg h
theorem fp1_n {J : wJn} {r : Flt ⊕ (Int × Nat × Nat)} (h : ¬ J 3 1 = 0) : fp1 J r = J 3 2 := if_neg h
theorem fk1_bd {J : wJn} {s : Nat → Int} {t p : Nat} {lo hi : Int} (h : 0 ≤ J 3 1 ∧ J 3 1 ≤ 4) : 0 ≤ fk1 J (num s t p lo hi) ∧ fk1 J (num s t p lo hi) ≤ 4 := by
  unfold fk1
  split
  · rcases hn : num s t p lo hi with f | r
    · have := num_k hn
      show 0 ≤ f.1 ∧ f.1 ≤ 4
      omega
    · show (0 : Int) ≤ 0 ∧ (0 : Int) ≤ 4
      omega
  · exact h
/-- BELLS of an ITEM so far, as a mask -/
def Msk (x : Int) (m : Nat) : Prop := x = m ∧ m < 2 ^ 24 ∧ popc m 24 ≤ 4
/-- a BELL more: a FAULT, or the BELL and the place behind it -/
def bel (s : Nat → Int) (t p m : Nat) : Flt ⊕ (Nat × Nat) := match num s t p 0 23 with
  | .inl f => .inl f
  | .inr (v, q, e) => if m.testBit v.toNat = true ∨ popc m 24 = 4 then .inl (2, q) else .inr (v.toNat, e)
theorem bel_ok {s : Nat → Int} {t p m b e : Nat} (hs : Sg s t) (hpt : p ≤ t) (h : bel s t p m = .inr (b, e)) : b < 24 ∧ e ≤ t ∧ m.testBit b = false ∧ popc m 24 ≠ 4 ∧ p < e := by
  unfold bel at h
  rcases hn : num s t p 0 23 with f | ⟨v, q, e2⟩
  · rw [hn] at h; cases h
  · rw [hn] at h
    simp only at h
    split at h
    · cases h
    · rename_i hc
      injection h with h
      injection h with a c
      have := num_ok hn
      have h2 := dg_le hs (nb_le (s := s) hpt)
      have h3 := nb_ge s t p
      subst a
      subst c
      refine ⟨by omega, by omega, ?_, fun q => hc (Or.inr q), by omega⟩
      rcases hq : m.testBit v.toNat with _ | _
      · rfl
      · exact absurd (Or.inl hq) hc
/-- what readBell leaves -/
def RdB (J J2 : wJn) (s : Nat → Int) (t p m : Nat) (v : Int) : Prop := (∀ a, a ≠ 3 → J2 a = J a) ∧ (∀ b, b ≠ 1 → b ≠ 2 → b ≠ 9 → b ≠ 10 → b ≠ 15 → J2 3 b = J 3 b) ∧ (∃ p2 : Nat, p2 ≤ t ∧ J2 3 9 = p2) ∧ (0 ≤ J2 3 1 ∧ J2 3 1 ≤ 4) ∧ (∃ m2, Msk (J2 3 15) m2) ∧ (J 3 1 ≠ 0 → J2 3 1 = J 3 1 ∧ J2 3 2 = J 3 2) ∧ (J 3 1 = 0 → (∀ f, bel s t p m = .inl f → J2 3 1 = f.1 ∧ J2 3 2 = f.2 ∧ f.1 ≠ 0) ∧ (∀ b e, bel s t p m = .inr (b, e) → J2 3 1 = 0 ∧ J2 3 2 = J 3 2 ∧ J2 3 15 = ((m ||| 2 ^ b : Nat) : Int) ∧ J2 3 9 = e ∧ v = b))
section BELL
variable {n : Nat} {K : wKd} {J : wJn} {L : wLn} {R : wRf}
theorem s_X4_readBell (hy : Ly K R) {s : Nat → Int} {t p m : Nat} (hT : Txt J s t) (hp : J 3 9 = p) (hpt : p ≤ t) (hf : 0 ≤ J 3 1 ∧ J 3 1 ≤ 4) (hm : Msk (J 3 15) m) : S_X4_readBell [.ref 3] n K (zw J) L R (fun r2 n2 K2 I2 L2 R2 => ∃ (J2 : wJn) (v : Int), Det (some (.int (iI v))) n K (zw J2) L R r2 n2 K2 I2 L2 R2 ∧ RdB J J2 s t p m v) := by
  have h2 := hT.2.1
  have h3 := h2.1
  have hql := nb_le (s := s) hpt
  have hde := dg_le h2 hql
  obtain ⟨hm1, hm2, hm3⟩ := hm
  refine Sp_intro [some (.ref 3), none, none] rfl rfl (Nat.le_of_ble_eq_true rfl) rfl ?_
  intro Γ C
  replace C : C_X4_readBell Γ := C
  refine w_aload_n (pc2 := 1) C dX4_readBell_0 rfl rfl ?_
  refine w_iconst (pc2 := 2) (v := iI 0) C dX4_readBell_1 (by decide) rfl ?_
  refine w_bipush (pc2 := 4) (v := iI 23) C dX4_readBell_2 (by decide) rfl ?_
  -- at 4: .invokevirtual 86
  refine w_gV (pc2 := 7)  C dX4_readBell_4 mb_X4_86 mv_X4_readNumber (s_X4_readNumber hy (lo := 0) (hi := 23) (by omega) (by omega) hT hp hpt (by omega)) (by first | exact hy.k _ | assumption) rfl (by decide) rfl rfl (Nat.le_of_ble_eq_true rfl) ⟨by decide, by decide⟩ ⟨rfl, rfl⟩ ⟨by decide, by decide⟩ rfl ?_
  rintro r2 n2 K2 I2 L2 R2 ⟨J2, hD, w0, wb, w9, w10, w1, w2⟩
  obtain ⟨d1, d2, d3, d4, d5, d6⟩ := hD
  replace d2 := d2.symm
  replace d3 := d3.symm
  replace d5 := d5.symm
  replace d6 := d6.symm
  subst d1
  subst d2
  subst d3
  subst d4
  subst d5
  subst d6
  have hb1 := fk1_bd (s := s) (t := t) (p := p) (lo := 0) (hi := 23) hf
  rw [← w1] at hb1
  have e15 : J2 3 15 = m := by rw [wb 15 (by decide) (by decide) (by decide) (by decide)]; exact hm1
  refine w_istore_n (pc2 := 8) C dX4_readBell_7 rfl (by decide) rfl rfl ?_
  try dsimp only [List.set]
  refine w_aload_n (pc2 := 9) C dX4_readBell_8 rfl rfl ?_
  refine z_getI (pc2 := 12) C dX4_readBell_9 fl_X4_68 (by first | exact hy.k _ | assumption) rfl ?_
  -- at 12: .ifCond .eq 5
  refine z_if_eq (pc2 := 15) (tgt := 17) C dX4_readBell_12 (by decide) rfl (by omega) (fun g1 => ?_) (fun g1 => ?_)
  · -- no FAULT so far
    have hz : J 3 1 = 0 := by
      rcases Decidable.em (J 3 1 = 0) with q | q
      · exact q
      · rw [w1, fk1_n q] at g1; exact absurd g1 q
    rw [fk1_0 hz] at w1
    rw [fp1_0 hz] at w2
    rcases hn : num s t p 0 23 with f | ⟨v, q, e⟩
    · rw [hn] at w1
      have := num_k hn
      have w1 : J2 3 1 = f.1 := w1
      omega
    · rw [hn] at w1 w2
      have w2 : J2 3 2 = J 3 2 := w2
      obtain ⟨o1, o2, o3, o4, o5, o6⟩ := num_ok hn
      rw [← o5]
      have ev : v = ((v.toNat : Nat) : Int) := by omega
      have hbel : bel s t p m = if m.testBit v.toNat = true ∨ popc m 24 = 4 then .inl (2, q) else .inr (v.toNat, e) := by
        unfold bel
        rw [hn]
      have fin : (m.testBit v.toNat = true ∨ popc m 24 = 4) → ∀ lo3 : Int32, wp Γ 0 0 (QQ Γ (fun r2 n2 K2 I2 L2 R2 => ∃ (J2 : wJn) (v : Int), Det (some (.int (iI v))) n K (zw J2) L R r2 n2 K2 I2 L2 R2 ∧ RdB J J2 s t p m v)) 41 [some (.ref 3), some (.int (iI v)), some (.int lo3)] [] n K (zw J2) L R := by
        intro hc lo3
        rw [if_pos hc] at hbel
        refine w_aload_n (pc2 := 42) C dX4_readBell_41 rfl rfl ?_
        refine w_iconst (pc2 := 43) (v := iI 2) C dX4_readBell_42 (by decide) rfl ?_
        refine w_aload_n (pc2 := 44) C dX4_readBell_43 rfl rfl ?_
        refine z_getI (pc2 := 47) C dX4_readBell_44 fl_X4_122 (by first | exact hy.k _ | assumption) rfl ?_
        -- at 47: .invokevirtual 64
        refine w_cVv (pc2 := 50)  C dX4_readBell_47 mb_X4_64 mv_X4_fail (s_X4_fail hy (by omega)) (by first | exact hy.k _ | assumption) rfl (by decide) rfl rfl (Nat.le_of_ble_eq_true rfl) ⟨by decide, by decide⟩ ⟨rfl, rfl⟩ ⟨by decide, by decide⟩ rfl ?_
        refine w_iconst (pc2 := 51) (v := iI (-1)) C dX4_readBell_50 (by decide) rfl ?_
        -- at 51: .ireturn
        exact w_iret C dX4_readBell_51 (by decide) (by decide) (by
          refine ⟨_, -1, DetI rfl rfl, fun a ha => by rw [flJ_row ha]; exact w0 a ha, fun b b1 b2 b3 b4 b5 => by rw [flJ_f b1 b2]; exact wb b b1 b2 b3 b4, ⟨_, hde, by rw [flJ_f (by decide) (by decide)]; exact w9⟩, ?_, ⟨m, ?_⟩, fun q => absurd hz q, fun _ => ⟨fun f hf2 => ?_, fun b e2 h4 => ?_⟩⟩
          · rw [flJ_1, if_pos g1]; omega
          · rw [flJ_f (by decide) (by decide)]; exact ⟨e15, hm2, hm3⟩
          · rw [hbel] at hf2
            injection hf2 with hf2
            subst hf2
            rw [flJ_1, flJ_2, if_pos g1, if_pos g1]
            exact ⟨rfl, by rw [w10, o3], by show (2 : Int) ≠ 0; decide⟩
          · rw [hbel] at h4; cases h4)
      rw [ev]
      refine w_iconst (pc2 := 18) (v := iI 1) C dX4_readBell_17 (by decide) rfl ?_
      refine w_iload_n (pc2 := 19) C dX4_readBell_18 rfl rfl ?_
      refine w_ishl (pc2 := 20) C dX4_readBell_19 rfl ?_
      refine w_istore_n (pc2 := 21) C dX4_readBell_20 rfl (by decide) rfl rfl ?_
      try dsimp only [List.set]
      refine w_aload_n (pc2 := 22) C dX4_readBell_21 rfl rfl ?_
      refine z_getI (pc2 := 25) C dX4_readBell_22 fl_X4_94 (by first | exact hy.k _ | assumption) rfl ?_
      refine w_iload_n (pc2 := 26) C dX4_readBell_25 rfl rfl ?_
      refine w_iand (pc2 := 27) C dX4_readBell_26 rfl ?_
      -- at 27: .ifCond .ne 14
      rw [sh1_all v.toNat (by omega), e15]
      refine w_if_ne (pc2 := 30) (tgt := 41) C dX4_readBell_27 (by decide) rfl (fun g2 => ?_) (fun g2 => ?_)
      · rw [ev] at fin
        have hbt : m.testBit v.toNat = true := by
          rcases hq : m.testBit v.toNat with _ | _
          · exact absurd ((and_0 (by omega)).mpr hq) g2
          · rfl
        exact fin (Or.inl hbt) _
      · have hbt : m.testBit v.toNat = false := (and_0 (by omega)).mp g2
        refine w_aload_n (pc2 := 31) C dX4_readBell_30 rfl rfl ?_
        refine z_getI (pc2 := 34) C dX4_readBell_31 fl_X4_94 (by first | exact hy.k _ | assumption) rfl ?_
        -- at 34: .invokestatic 116
        rw [e15]
        refine w_cSi (pc2 := 37)  C dX4_readBell_34 mb_X4_116 ms_J6_bitCount_0f7a4 (s_bitCount) rfl rfl (Nat.le_of_ble_eq_true rfl) ⟨by decide, by decide⟩ ⟨rfl, rfl⟩ ⟨by decide, by decide⟩ rfl ?_
        rw [bc_ok hm2 hm3]
        refine w_iconst (pc2 := 38) (v := iI 4) C dX4_readBell_37 (by decide) rfl ?_
        -- at 38: .if_icmp .ne 14
        refine z_icmp_ne (pc2 := 41) (tgt := 52) C dX4_readBell_38 (by decide) rfl (by omega) (by omega) (fun g3 => ?_) (fun g3 => ?_)
        · have hc : ¬ (m.testBit v.toNat = true ∨ popc m 24 = 4) := by
            rintro (z | z)
            · rw [hbt] at z; cases z
            · omega
          rw [if_neg hc] at hbel
          refine w_aload_n (pc2 := 53) C dX4_readBell_52 rfl rfl ?_
          refine w_dup (pc2 := 54) C dX4_readBell_53 rfl rfl ?_
          refine z_getI (pc2 := 57) C dX4_readBell_54 fl_X4_94 (by first | exact hy.k _ | assumption) rfl ?_
          refine w_iload_n (pc2 := 58) C dX4_readBell_57 rfl rfl ?_
          refine w_ior (pc2 := 59) C dX4_readBell_58 rfl ?_
          -- at 59: .putfield 94
          rw [e15, or_i]
          refine z_putI (pc2 := 62) C dX4_readBell_59 fl_X4_94 (by first | exact hy.k _ | assumption) (by rfl) (by rfl) rfl ?_
          refine w_iload_n (pc2 := 63) C dX4_readBell_62 rfl rfl ?_
          -- at 63: .ireturn
          have hpc := popc_or hbt 24
          rw [if_pos (show v.toNat < 24 by omega)] at hpc
          have hlt : m ||| 2 ^ v.toNat < 2 ^ 24 := Nat.or_lt_two_pow hm2 (Nat.pow_lt_pow_right (by decide) (by omega))
          exact w_iret C dX4_readBell_63 (by decide) (by decide) (by
            refine ⟨_, _, DetI rfl rfl, fun a ha => by rw [up2_row ha]; exact w0 a ha, fun b b1 b2 b3 b4 b5 => by rw [up2_n _ _ _ _ (by omega)]; exact wb b b1 b2 b3 b4, ⟨_, hde, by rw [up2_n _ _ _ _ (by omega)]; exact w9⟩, by rw [up2_n _ _ _ _ (by omega)]; exact hb1, ⟨m ||| 2 ^ v.toNat, up2_s _ _ _ _, hlt, by omega⟩, fun q => absurd hz q, fun _ => ⟨fun f hf2 => ?_, fun b e2 h4 => ?_⟩⟩
            · rw [hbel] at hf2; cases hf2
            · rw [hbel] at h4
              injection h4 with h4
              injection h4 with a1 a2
              subst a1
              subst a2
              exact ⟨by rw [up2_n _ _ _ _ (by omega)]; exact g1, by rw [up2_n _ _ _ _ (by omega)]; exact w2, up2_s _ _ _ _, by rw [up2_n _ _ _ _ (by omega), w9, o4], rfl⟩)
        · rw [ev] at fin
          exact fin (Or.inr (by omega)) _
  · skip
    refine w_iconst (pc2 := 16) (v := iI (-1)) C dX4_readBell_15 (by decide) rfl ?_
    -- at 16: .ireturn
    exact w_iret C dX4_readBell_16 (by decide) (by decide) (by
      refine ⟨J2, -1, DetI rfl rfl, w0, fun b b1 b2 b3 b4 b5 => wb b b1 b2 b3 b4, ⟨_, hde, w9⟩, hb1, ⟨m, e15, hm2, hm3⟩, fun q => ⟨by rw [w1, fk1_n q], by rw [w2, fp1_n q]⟩, fun hz => ?_⟩
      rw [fk1_0 hz] at w1
      rw [fp1_0 hz] at w2
      rcases hn : num s t p 0 23 with f | r
      · rw [hn] at w1 w2
        have w1 : J2 3 1 = f.1 := w1
        have w2 : J2 3 2 = f.2 := w2
        have hbel : bel s t p m = .inl f := by unfold bel; rw [hn]
        refine ⟨fun f2 hf2 => ?_, fun b e2 h4 => ?_⟩
        · rw [hbel] at hf2
          injection hf2 with hf2
          subst hf2
          exact ⟨w1, w2, by rw [← w1]; exact g1⟩
        · rw [hbel] at h4; cases h4
      · rw [hn] at w1
        exact absurd w1 g1)
end BELL
