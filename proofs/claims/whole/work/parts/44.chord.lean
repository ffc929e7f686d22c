/-- BELLS up to the ')': a FAULT, or their mask and the place behind it -/
def chd (s : Nat → Int) (t : Nat) : Nat → Nat → Nat → Flt ⊕ (Nat × Nat)
  | 0, _, _ => .inl (1, 0)
  | f + 1, p, m => if s (nb s t p) = 41 then .inr (m, nb s t p + 1) else match bel s t (nb s t p) m with
    | .inl e => .inl e
    | .inr (b, e) => chd s t f e (m ||| 2 ^ b)
def crd (s : Nat → Int) (t p : Nat) : Flt ⊕ (Nat × Nat) := match bel s t p 0 with
  | .inl f => .inl f
  | .inr (b, e) => chd s t 4 e (0 ||| 2 ^ b)
/-- what the reading of BELLS leaves, from no FAULT and a mask m0 on -/
def RdC (J J2 : wJn) (t : Nat) (r : Flt ⊕ (Nat × Nat)) : Prop := (∀ a, a ≠ 3 → J2 a = J a) ∧ (∀ b, b ≠ 1 → b ≠ 2 → b ≠ 9 → b ≠ 10 → b ≠ 15 → J2 3 b = J 3 b) ∧ (∃ p2 : Nat, p2 ≤ t ∧ J2 3 9 = p2) ∧ (0 ≤ J2 3 1 ∧ J2 3 1 ≤ 4) ∧ (∃ m2, Msk (J2 3 15) m2) ∧ (∀ f, r = .inl f → J2 3 1 = f.1 ∧ J2 3 2 = f.2 ∧ f.1 ≠ 0) ∧ (∀ m e, r = .inr (m, e) → J2 3 1 = 0 ∧ J2 3 2 = J 3 2 ∧ J2 3 15 = (m : Nat) ∧ J2 3 9 = (e : Nat))
/-- the LENGTH: a FAULT, or (what is told, 0: nothing; the place behind) -/
def lng (s : Nat → Int) (t p : Nat) : Flt ⊕ (Int × Nat) := if s (nb s t p) = 58 then (match num s t (nb s t p + 1) 1 64 with
  | .inl f => .inl f
  | .inr (v, _, e) => .inr (v, e)) else .inr (0, nb s t p)
def RdL (J J2 : wJn) (s : Nat → Int) (t p : Nat) : Prop := (∀ a, a ≠ 3 → J2 a = J a) ∧ (∀ b, b ≠ 1 → b ≠ 2 → b ≠ 9 → b ≠ 10 → b ≠ 11 → J2 3 b = J 3 b) ∧ (0 ≤ J2 3 1 ∧ J2 3 1 ≤ 4) ∧ (J 3 1 ≠ 0 → J2 3 1 = J 3 1 ∧ J2 3 2 = J 3 2) ∧ (J 3 1 = 0 → (∀ f, lng s t p = .inl f → J2 3 1 = f.1 ∧ J2 3 2 = f.2 ∧ f.1 ≠ 0) ∧ (∀ v e, lng s t p = .inr (v, e) → J2 3 1 = 0 ∧ J2 3 2 = J 3 2 ∧ J2 3 9 = (e : Nat) ∧ J2 3 11 = if v = 0 then J 3 11 else v))
section CHORD
variable {n : Nat} {K : wKd} {J : wJn} {L : wLn} {R : wRf}
theorem s_X4_readChord (hy : Ly K R) {s : Nat → Int} {t p : Nat} (hT : Txt J s t) (hp : J 3 9 = p) (hpt : p ≤ t) (hf : J 3 1 = 0) (hm : J 3 15 = 0) : S_X4_readChord [.ref 3] n K (zw J) L R (fun r2 n2 K2 I2 L2 R2 => ∃ J2 : wJn, Det none n K (zw J2) L R r2 n2 K2 I2 L2 R2 ∧ RdC J J2 t (crd s t p)) := by
  have h2 := hT.2.1
  have h3 := h2.1
  refine Sp_intro [some (.ref 3), none] rfl rfl (Nat.le_of_ble_eq_true rfl) rfl ?_
  intro Γ C
  replace C : C_X4_readChord Γ := C
  generalize hpost : (fun (r2 : Option Value) (n2 : Nat) (K2 : wKd) (I2 : wIn) (L2 : wLn) (R2 : wRf) => ∃ J2 : wJn, Det none n K (zw J2) L R r2 n2 K2 I2 L2 R2 ∧ RdC J J2 t (crd s t p)) = post
  have hm0 : Msk (J 3 15) 0 := ⟨hm, by decide, by decide⟩
  -- a FAULT told: the end
  have fin : ∀ (J2 : wJn) (c : Int) (f : Flt), (∀ a, a ≠ 3 → J2 a = J a) → (∀ b, b ≠ 1 → b ≠ 2 → b ≠ 9 → b ≠ 10 → b ≠ 15 → J2 3 b = J 3 b) → (∃ p2 : Nat, p2 ≤ t ∧ J2 3 9 = p2) → (0 ≤ J2 3 1 ∧ J2 3 1 ≤ 4) → (∃ m2, Msk (J2 3 15) m2) → crd s t p = .inl f → J2 3 1 = f.1 → J2 3 2 = f.2 → f.1 ≠ 0 → 0 ≤ c ∧ c ≤ 4 → wp Γ 0 0 (QQ Γ post) 7 [some (.ref 3), some (.int (iI c))] [] n K (zw J2) L R := by
    intro J2 c f w0 wb w9 w1 w15 hc e1 e2 e3 hcb
    refine w_iload_n (pc2 := 8) C dX4_readChord_7 rfl rfl ?_
    refine w_iconst (pc2 := 9) (v := iI 4) C dX4_readChord_8 (by decide) rfl ?_
    -- at 9: .if_icmp .ge 41
    refine z_icmp_ge (pc2 := 12) (tgt := 50) C dX4_readChord_9 (by decide) rfl (by omega) (by omega) (fun g1 => ?_) (fun g1 => ?_)
    · skip
      exact w_ret C dX4_readChord_50 (by decide) (by decide) (by rw [← hpost]; exact ⟨J2, DetI rfl rfl, w0, wb, w9, w1, w15, fun f2 h => by rw [hc] at h; injection h with h; subst h; exact ⟨e1, e2, e3⟩, fun m e h => by rw [hc] at h; cases h⟩)
    · skip
      refine w_aload_n (pc2 := 13) C dX4_readChord_12 rfl rfl ?_
      refine z_getI (pc2 := 16) C dX4_readChord_13 fl_X4_68 (by first | exact hy.k _ | assumption) rfl ?_
      -- at 16: .ifCond .ne 34
      refine z_if_ne (pc2 := 19) (tgt := 50) C dX4_readChord_16 (by decide) rfl (by omega) (fun g2 => ?_) (fun g2 => ?_)
      · skip
        exact w_ret C dX4_readChord_50 (by decide) (by decide) (by rw [← hpost]; exact ⟨J2, DetI rfl rfl, w0, wb, w9, w1, w15, fun f2 h => by rw [hc] at h; injection h with h; subst h; exact ⟨e1, e2, e3⟩, fun m e h => by rw [hc] at h; cases h⟩)
      · exact absurd g2 (by omega)
  have key : ∀ (f c m p2 : Nat) (J2 : wJn), c + f = 4 → (∀ a, a ≠ 3 → J2 a = J a) → (∀ b, b ≠ 1 → b ≠ 2 → b ≠ 9 → b ≠ 10 → b ≠ 15 → J2 3 b = J 3 b) → p2 ≤ t → J2 3 9 = p2 → J2 3 1 = 0 → J2 3 2 = J 3 2 → Msk (J2 3 15) m → popc m 24 = c + 1 → crd s t p = chd s t f p2 m → wp Γ 0 0 (QQ Γ post) 7 [some (.ref 3), some (.int (iI c))] [] n K (zw J2) L R := by
    intro f
    induction f with
    | zero =>
      intro c m p2 J2 hc w0 wb hp2 w9 w1 w2 w15 hpc hcr
      have := w15.2.2
      omega
    | succ f ih =>
      intro c m p2 J2 hc w0 wb hp2 w9 w1 w2 w15 hpc hcr
      have hT2 : Txt J2 s t := hT.rows (w0 1 (by decide)) (w0 2 (by decide))
      have hql := nb_le (s := s) hp2
      have hbd := h2.bd (nb s t p2)
      simp only [chd] at hcr
      refine w_iload_n (pc2 := 8) C dX4_readChord_7 rfl rfl ?_
      refine w_iconst (pc2 := 9) (v := iI 4) C dX4_readChord_8 (by decide) rfl ?_
      -- at 9: .if_icmp .ge 41
      refine z_icmp_ge (pc2 := 12) (tgt := 50) C dX4_readChord_9 (by decide) rfl (by omega) (by omega) (fun g1 => ?_) (fun g1 => ?_)
      · exact absurd hc (by omega)
      · skip
        refine w_aload_n (pc2 := 13) C dX4_readChord_12 rfl rfl ?_
        refine z_getI (pc2 := 16) C dX4_readChord_13 fl_X4_68 (by first | exact hy.k _ | assumption) rfl ?_
        -- at 16: .ifCond .ne 34
        refine z_if_ne (pc2 := 19) (tgt := 50) C dX4_readChord_16 (by decide) rfl (by omega) (fun g2 => ?_) (fun g2 => ?_)
        · exact absurd w1 g2
        · skip
          refine w_aload_n (pc2 := 20) C dX4_readChord_19 rfl rfl ?_
          -- at 20: .invokevirtual 39
          refine w_cVi (pc2 := 23)  C dX4_readChord_20 mb_X4_39 mv_X4_nextSign (s_X4_nextSign hy hT2 w9 hp2) (by first | exact hy.k _ | assumption) rfl (by decide) rfl rfl (Nat.le_of_ble_eq_true rfl) ⟨by decide, by decide⟩ ⟨rfl, rfl⟩ ⟨by decide, by decide⟩ rfl ?_
          refine w_bipush (pc2 := 25) (v := iI 41) C dX4_readChord_23 (by decide) rfl ?_
          -- at 25: .if_icmp .ne 14
          refine z_icmp_ne (pc2 := 28) (tgt := 39) C dX4_readChord_25 (by decide) rfl (by omega) (by omega) (fun g3 => ?_) (fun g3 => ?_)
          · -- one more BELL
            rw [if_neg g3] at hcr
            have hT3 : Txt (up2 J2 3 9 (nb s t p2)) s t := hT2.rows (up2_row (by decide)) (up2_row (by decide))
            refine w_aload_n (pc2 := 40) C dX4_readChord_39 rfl rfl ?_
            -- at 40: .invokevirtual 97
            refine w_gV (pc2 := 43)  C dX4_readChord_40 mb_X4_97 mv_X4_readBell (s_X4_readBell hy hT3 (up2_s _ _ _ _) hql (by rw [up2_n _ _ _ _ (by omega), w1]; omega) (show Msk (up2 J2 3 9 (nb s t p2) 3 15) m by rw [up2_n _ _ _ _ (by omega)]; exact w15)) (by first | exact hy.k _ | assumption) rfl (by decide) rfl rfl (Nat.le_of_ble_eq_true rfl) ⟨by decide, by decide⟩ ⟨rfl, rfl⟩ ⟨by decide, by decide⟩ rfl ?_
            rintro r2 n2 K2 I2 L2 R2 ⟨J4, v, hD, x0, xb, x9, x1, x15, xf, xo⟩
            obtain ⟨d1, d2, d3, d4, d5, d6⟩ := hD
            replace d2 := d2.symm
            replace d3 := d3.symm
            replace d5 := d5.symm
            replace d6 := d6.symm
            subst d1
            subst d2
            subst d3
            subst d4
            subst d5
            subst d6
            have xo := xo (by rw [up2_n _ _ _ _ (by omega)]; exact w1)
            have y0 : ∀ a, a ≠ 3 → J4 a = J a := fun a ha => by rw [x0 a ha, up2_row ha]; exact w0 a ha
            have yb : ∀ b, b ≠ 1 → b ≠ 2 → b ≠ 9 → b ≠ 10 → b ≠ 15 → J4 3 b = J 3 b := fun b b1 b2 b3 b4 b5 => by rw [xb b b1 b2 b3 b4 b5, up2_n _ _ _ _ (by omega)]; exact wb b b1 b2 b3 b4 b5
            refine w_pop (pc2 := 44) C dX4_readChord_43 rfl rfl ?_
            refine w_iinc (pc2 := 47) C dX4_readChord_44 rfl (iI_add _ _) rfl (by decide) rfl rfl ?_
            try dsimp only [List.set]
            refine w_goto (tgt := 7) C dX4_readChord_47 (by decide) ?_
            -- at 7: .iload_n 1
            rcases hbl : bel s t (nb s t p2) m with fl | ⟨b, e⟩
            · rw [hbl] at hcr
              have hcr : crd s t p = .inl fl := hcr
              obtain ⟨z1, z2, z3⟩ := xo.1 fl hbl
              exact fin J4 _ fl y0 yb x9 x1 x15 hcr z1 z2 z3 (by omega)
            · rw [hbl] at hcr
              have hcr : crd s t p = chd s t f e (m ||| 2 ^ b) := hcr
              obtain ⟨z1, z2, z3, z4, z5⟩ := xo.2 b e hbl
              obtain ⟨o1, o2, o3, o4, o5⟩ := bel_ok h2 hql hbl
              have hpo := popc_or o3 24
              rw [if_pos o1] at hpo
              have hlt : m ||| 2 ^ b < 2 ^ 24 := Nat.or_lt_two_pow w15.2.1 (Nat.pow_lt_pow_right (by decide) o1)
              refine ih (c + 1) (m ||| 2 ^ b) e J4 (by omega) y0 yb o2 z4 z1 (by rw [z2, up2_n _ _ _ _ (by omega)]; exact w2) ⟨z3, hlt, ?_⟩ (by omega) hcr
              have := w15.2.2
              omega
          · rw [if_pos g3] at hcr
            have hlt2 : nb s t p2 < t := h2.lt (by omega)
            refine w_aload_n (pc2 := 29) C dX4_readChord_28 rfl rfl ?_
            refine w_dup (pc2 := 30) C dX4_readChord_29 rfl rfl ?_
            refine z_getI (pc2 := 33) C dX4_readChord_30 fl_X4_61 (by first | exact hy.k _ | assumption) rfl ?_
            refine w_iconst (pc2 := 34) (v := iI 1) C dX4_readChord_33 (by decide) rfl ?_
            refine z_iadd (pc2 := 35) C dX4_readChord_34 rfl ?_
            refine z_putI (pc2 := 38) C dX4_readChord_35 fl_X4_61 (by first | exact hy.k _ | assumption) (by rfl) (by rfl) rfl ?_
            -- at 38: .return_
            rw [up2_s, up2_up2]
            exact w_ret C dX4_readChord_38 (by decide) (by decide) (by
              rw [← hpost]
              refine ⟨_, DetI rfl rfl, fun a ha => by rw [up2_row ha]; exact w0 a ha, fun b b1 b2 b3 b4 b5 => by rw [up2_n _ _ _ _ (by omega)]; exact wb b b1 b2 b3 b4 b5, ⟨nb s t p2 + 1, by omega, by rw [up2_s]; omega⟩, by rw [up2_n _ _ _ _ (by omega), w1]; omega, ⟨m, by rw [up2_n _ _ _ _ (by omega)]; exact w15⟩, fun f2 h => (by rw [hcr] at h; cases h), fun m2 e h => ?_⟩
              rw [hcr] at h
              injection h with h
              injection h with a1 a2
              subst a1
              subst a2
              exact ⟨by rw [up2_n _ _ _ _ (by omega)]; exact w1, by rw [up2_n _ _ _ _ (by omega)]; exact w2, by rw [up2_n _ _ _ _ (by omega)]; exact w15.1, by rw [up2_s]; omega⟩)
  refine w_aload_n (pc2 := 1) C dX4_readChord_0 rfl rfl ?_
  -- at 1: .invokevirtual 97
  refine w_gV (pc2 := 4)  C dX4_readChord_1 mb_X4_97 mv_X4_readBell (s_X4_readBell hy hT hp hpt (by omega) hm0) (by first | exact hy.k _ | assumption) rfl (by decide) rfl rfl (Nat.le_of_ble_eq_true rfl) ⟨by decide, by decide⟩ ⟨rfl, rfl⟩ ⟨by decide, by decide⟩ rfl ?_
  rintro r2 n2 K2 I2 L2 R2 ⟨J4, v, hD, x0, xb, x9, x1, x15, xf, xo⟩
  obtain ⟨d1, d2, d3, d4, d5, d6⟩ := hD
  replace d2 := d2.symm
  replace d3 := d3.symm
  replace d5 := d5.symm
  replace d6 := d6.symm
  subst d1
  subst d2
  subst d3
  subst d4
  subst d5
  subst d6
  have xo := xo hf
  refine w_pop (pc2 := 5) C dX4_readChord_4 rfl rfl ?_
  refine w_iconst (pc2 := 6) (v := iI 0) C dX4_readChord_5 (by decide) rfl ?_
  refine w_istore_n (pc2 := 7) C dX4_readChord_6 rfl (by decide) rfl rfl ?_
  try dsimp only [List.set]
  -- at 7: .iload_n 1
  rcases hbl : bel s t p 0 with fl | ⟨b, e⟩
  · have hcr : crd s t p = .inl fl := by unfold crd; rw [hbl]
    obtain ⟨z1, z2, z3⟩ := xo.1 fl hbl
    exact fin J4 0 fl x0 xb x9 x1 x15 hcr z1 z2 z3 (by omega)
  · have hcr : crd s t p = chd s t 4 e (0 ||| 2 ^ b) := by unfold crd; rw [hbl]
    obtain ⟨z1, z2, z3, z4, z5⟩ := xo.2 b e hbl
    obtain ⟨o1, o2, o3, o4, o5⟩ := bel_ok h2 hpt hbl
    have hpo := popc_or o3 24
    rw [if_pos o1, show popc 0 24 = 0 by decide] at hpo
    have hlt : 0 ||| 2 ^ b < 2 ^ 24 := Nat.or_lt_two_pow (by decide) (Nat.pow_lt_pow_right (by decide) o1)
    exact key 4 0 (0 ||| 2 ^ b) e J4 (by omega) x0 xb o2 z4 z1 z2 ⟨z3, hlt, by omega⟩ (by omega) hcr
theorem s_X4_readLength (hy : Ly K R) {s : Nat → Int} {t p : Nat} (hT : Txt J s t) (hp : J 3 9 = p) (hpt : p ≤ t) (hf : 0 ≤ J 3 1 ∧ J 3 1 ≤ 4) : S_X4_readLength [.ref 3] n K (zw J) L R (fun r2 n2 K2 I2 L2 R2 => ∃ J2 : wJn, Det none n K (zw J2) L R r2 n2 K2 I2 L2 R2 ∧ RdL J J2 s t p) := by
  have h2 := hT.2.1
  have h3 := h2.1
  have hql := nb_le (s := s) hpt
  have hbd := h2.bd (nb s t p)
  refine Sp_intro [some (.ref 3), none] rfl rfl (Nat.le_of_ble_eq_true rfl) rfl ?_
  intro Γ C
  replace C : C_X4_readLength Γ := C
  refine w_aload_n (pc2 := 1) C dX4_readLength_0 rfl rfl ?_
  -- at 1: .invokevirtual 39
  refine w_cVi (pc2 := 4)  C dX4_readLength_1 mb_X4_39 mv_X4_nextSign (s_X4_nextSign hy hT hp hpt) (by first | exact hy.k _ | assumption) rfl (by decide) rfl rfl (Nat.le_of_ble_eq_true rfl) ⟨by decide, by decide⟩ ⟨rfl, rfl⟩ ⟨by decide, by decide⟩ rfl ?_
  refine w_bipush (pc2 := 6) (v := iI 58) C dX4_readLength_4 (by decide) rfl ?_
  -- at 6: .if_icmp .ne 33
  refine z_icmp_ne (pc2 := 9) (tgt := 39) C dX4_readLength_6 (by decide) rfl (by omega) (by omega) (fun g1 => ?_) (fun g1 => ?_)
  · skip
    exact w_ret C dX4_readLength_39 (by decide) (by decide) (by
      refine ⟨_, DetI rfl rfl, fun a ha => up2_row ha, fun b b1 b2 b3 b4 b5 => up2_n _ _ _ _ (by omega), by rw [up2_n _ _ _ _ (by omega)]; exact hf, fun _ => ⟨up2_n _ _ _ _ (by omega), up2_n _ _ _ _ (by omega)⟩, fun hz => ⟨fun f h => ?_, fun v e h => ?_⟩⟩
      · rw [lng, if_neg g1] at h; cases h
      · rw [lng, if_neg g1] at h
        injection h with h
        injection h with a1 a2
        subst a1
        subst a2
        exact ⟨by rw [up2_n _ _ _ _ (by omega)]; exact hz, up2_n _ _ _ _ (by omega), up2_s _ _ _ _, by rw [if_pos rfl, up2_n _ _ _ _ (by omega)]⟩)
  · have hlt : nb s t p < t := h2.lt (by omega)
    refine w_aload_n (pc2 := 10) C dX4_readLength_9 rfl rfl ?_
    refine w_dup (pc2 := 11) C dX4_readLength_10 rfl rfl ?_
    refine z_getI (pc2 := 14) C dX4_readLength_11 fl_X4_61 (by first | exact hy.k _ | assumption) rfl ?_
    refine w_iconst (pc2 := 15) (v := iI 1) C dX4_readLength_14 (by decide) rfl ?_
    refine z_iadd (pc2 := 16) C dX4_readLength_15 rfl ?_
    refine z_putI (pc2 := 19) C dX4_readLength_16 fl_X4_61 (by first | exact hy.k _ | assumption) (by rfl) (by rfl) rfl ?_
    refine w_aload_n (pc2 := 20) C dX4_readLength_19 rfl rfl ?_
    refine w_iconst (pc2 := 21) (v := iI 1) C dX4_readLength_20 (by decide) rfl ?_
    refine w_bipush (pc2 := 23) (v := iI 64) C dX4_readLength_21 (by decide) rfl ?_
    -- at 23: .invokevirtual 86
    rw [up2_s, up2_up2]
    have hJ3 : ∃ J3, J3 = up2 J 3 9 ((nb s t p : Int) + 1) := ⟨_, rfl⟩
    obtain ⟨J3, eJ⟩ := hJ3
    rw [← eJ]
    have c0 : ∀ a, a ≠ 3 → J3 a = J a := fun a ha => by rw [eJ, up2_row ha]
    have cb : ∀ b, b ≠ 9 → J3 3 b = J 3 b := fun b hb => by rw [eJ, up2_n _ _ _ _ (by omega)]
    have hT3 : Txt J3 s t := hT.rows (c0 1 (by decide)) (c0 2 (by decide))
    have hf3 : 0 ≤ J3 3 1 ∧ J3 3 1 ≤ 4 := by rw [cb 1 (by decide)]; exact hf
    refine w_gV (pc2 := 26)  C dX4_readLength_23 mb_X4_86 mv_X4_readNumber (s_X4_readNumber hy (lo := 1) (hi := 64) (by omega) (by omega) hT3 (p := nb s t p + 1) (by rw [eJ, up2_s]; omega) (by omega) (by omega)) (by first | exact hy.k _ | assumption) rfl (by decide) rfl rfl (Nat.le_of_ble_eq_true rfl) ⟨by decide, by decide⟩ ⟨rfl, rfl⟩ ⟨by decide, by decide⟩ rfl ?_
    rintro r2 n2 K2 I2 L2 R2 ⟨J4, hD, w0, wb, w9, w10, w1, w2⟩
    obtain ⟨d1, d2, d3, d4, d5, d6⟩ := hD
    replace d2 := d2.symm
    replace d3 := d3.symm
    replace d5 := d5.symm
    replace d6 := d6.symm
    subst d1
    subst d2
    subst d3
    subst d4
    subst d5
    subst d6
    have hb1 := fk1_bd (s := s) (t := t) (p := nb s t p + 1) (lo := 1) (hi := 64) hf3
    rw [← w1] at hb1
    have y0 : ∀ a, a ≠ 3 → J4 a = J a := fun a ha => by rw [w0 a ha]; exact c0 a ha
    have yb : ∀ b, b ≠ 1 → b ≠ 2 → b ≠ 9 → b ≠ 10 → J4 3 b = J 3 b := fun b b1 b2 b3 b4 => by rw [wb b b1 b2 b3 b4]; exact cb b b3
    refine w_istore_n (pc2 := 27) C dX4_readLength_26 rfl (by decide) rfl rfl ?_
    try dsimp only [List.set]
    refine w_aload_n (pc2 := 28) C dX4_readLength_27 rfl rfl ?_
    refine z_getI (pc2 := 31) C dX4_readLength_28 fl_X4_68 (by first | exact hy.k _ | assumption) rfl ?_
    -- at 31: .ifCond .ne 8
    refine z_if_ne (pc2 := 34) (tgt := 39) C dX4_readLength_31 (by decide) rfl (by omega) (fun g2 => ?_) (fun g2 => ?_)
    · skip
      exact w_ret C dX4_readLength_39 (by decide) (by decide) (by
        refine ⟨_, DetI rfl rfl, y0, fun b b1 b2 b3 b4 b5 => yb b b1 b2 b3 b4, hb1, fun q => ⟨by rw [w1, fk1_n (by rw [cb 1 (by decide)]; exact q)]; exact cb 1 (by decide), by rw [w2, fp1_n (by rw [cb 1 (by decide)]; exact q)]; exact cb 2 (by decide)⟩, fun hz => ?_⟩
        have hz3 : J3 3 1 = 0 := by rw [cb 1 (by decide)]; exact hz
        rw [fk1_0 hz3] at w1
        rw [fp1_0 hz3] at w2
        rcases hn : num s t (nb s t p + 1) 1 64 with f | ⟨v, q, e⟩
        · rw [hn] at w1 w2
          have w1 : J4 3 1 = f.1 := w1
          have w2 : J4 3 2 = f.2 := w2
          have hl : lng s t p = .inl f := by rw [lng, if_pos g1, hn]
          refine ⟨fun f2 h => ?_, fun v e h => ?_⟩
          · rw [hl] at h
            injection h with h
            subst h
            exact ⟨w1, w2, by rw [← w1]; exact g2⟩
          · rw [hl] at h; cases h
        · rw [hn] at w1
          exact absurd w1 g2)
    · have hz : J 3 1 = 0 := by
        rcases Decidable.em (J 3 1 = 0) with q | q
        · exact q
        · rw [w1, fk1_n (by rw [cb 1 (by decide)]; exact q), cb 1 (by decide)] at g2; exact absurd g2 q
      have hz3 : J3 3 1 = 0 := by rw [cb 1 (by decide)]; exact hz
      rw [fk1_0 hz3] at w1
      rw [fp1_0 hz3] at w2
      rcases hn : num s t (nb s t p + 1) 1 64 with f | ⟨v, q, e⟩
      · rw [hn] at w1
        have w1 : J4 3 1 = f.1 := w1
        have := num_k hn
        omega
      · rw [hn] at w1 w2
        have w2 : J4 3 2 = J3 3 2 := w2
        obtain ⟨o1, o2, o3, o4, o5, o6⟩ := num_ok hn
        rw [← o5]
        have hl : lng s t p = .inr (v, e) := by rw [lng, if_pos g1, hn]
        refine w_aload_n (pc2 := 35) C dX4_readLength_34 rfl rfl ?_
        refine w_iload_n (pc2 := 36) C dX4_readLength_35 rfl rfl ?_
        refine z_putI (pc2 := 39) C dX4_readLength_36 fl_X4_83 (by first | exact hy.k _ | assumption) (by rfl) (by rfl) rfl ?_
        -- at 39: .return_
        exact w_ret C dX4_readLength_39 (by decide) (by decide) (by
          refine ⟨_, DetI rfl rfl, fun a ha => by rw [up2_row ha]; exact y0 a ha, fun b b1 b2 b3 b4 b5 => by rw [up2_n _ _ _ _ (by omega)]; exact yb b b1 b2 b3 b4, by rw [up2_n _ _ _ _ (by omega)]; exact hb1, fun q => absurd hz q, fun _ => ⟨fun f h => (by rw [hl] at h; cases h), fun v2 e2 h => ?_⟩⟩
          rw [hl] at h
          injection h with h
          injection h with a1 a2
          subst a1
          subst a2
          exact ⟨by rw [up2_n _ _ _ _ (by omega)]; exact g2, by rw [up2_n _ _ _ _ (by omega), w2]; exact cb 2 (by decide), by rw [up2_n _ _ _ _ (by omega), w9, o4], by rw [up2_s, if_neg (by omega)]⟩)
end CHORD
