/-- an ITEM's BELLS: a FAULT, or (mask, the two in turn, the place behind) -/
def bod (s : Nat → Int) (t p : Nat) (x : Int) : Flt ⊕ (Nat × Nat × Nat × Nat) :=
  if x = 98 then (match bel s t (p + 1) 0 with
    | .inl f => .inl f
    | .inr (b, e) => .inr (0 ||| 2 ^ b, 0, 0, e))
  else if x = 40 then (match crd s t (p + 1) with
    | .inl f => .inl f
    | .inr (m, e) => .inr (m, 0, 0, e))
  else if x = 116 then (match bel s t (p + 1) 0 with
    | .inl f => .inl f
    | .inr (a, e) => match bel s t e (0 ||| 2 ^ a) with
      | .inl f => .inl f
      | .inr (b, e2) => .inr ((0 ||| 2 ^ a) ||| 2 ^ b, a, b, e2))
  else .inr (0, 0, 0, p + 1)
/-- an ITEM: a FAULT, or (mask, the two in turn, the LENGTH told or 0, the place behind) -/
def itm (s : Nat → Int) (t p : Nat) (x : Int) : Flt ⊕ (Nat × Nat × Nat × Int × Nat) := match bod s t p x with
  | .inl f => .inl f
  | .inr (m, a, b, e) => match lng s t e with
    | .inl f => .inl f
    | .inr (v, e2) => .inr (m, a, b, v, e2)
/-- what the BELLS' reading leaves -/
def BdP (J J2 : wJn) (t : Nat) (x : Int) (r : Flt ⊕ (Nat × Nat × Nat × Nat)) : Prop := (∀ a, a ≠ 3 → J2 a = J a) ∧ (∀ b, b = 8 ∨ b = 11 ∨ b = 12 → J2 3 b = J 3 b) ∧ (∃ p2 : Nat, p2 ≤ t ∧ J2 3 9 = p2) ∧ (0 ≤ J2 3 1 ∧ J2 3 1 ≤ 4) ∧ (∃ m2, Msk (J2 3 15) m2) ∧ (∀ f, r = .inl f → J2 3 1 = f.1 ∧ J2 3 2 = f.2 ∧ f.1 ≠ 0) ∧ (∀ m a b e, r = .inr (m, a, b, e) → J2 3 1 = 0 ∧ J2 3 2 = J 3 2 ∧ J2 3 15 = (m : Nat) ∧ J2 3 9 = (e : Nat) ∧ (x = 116 → J2 3 13 = (a : Nat) ∧ J2 3 14 = (b : Nat)))
def lenOf (v : Int) (l : Nat) : Nat := if v = 0 then l else v.toNat
def addOf (x : Int) (m l : Nat) : Nat := if x = 116 then l else popc m 24
def ftI (x : Int) (tick : Int) : Nat → Int := fun i => if x = 116 then tick + i else tick
def fbI (x : Int) (m a b : Nat) : Nat → Int := fun i => if x = 116 then (if i % 2 = 0 then (a : Int) else b) else (rnk m i 24 : Nat)
/-- what readItem leaves -/
def RdI (J J2 : wJn) (s : Nat → Int) (t p c l : Nat) (x : Int) : Prop :=
  (0 ≤ J2 3 1 ∧ J2 3 1 ≤ 4) ∧ J2 3 8 = J 3 8 ∧ ((1999 < J 3 12 ∧ J2 = flJ J 4 p) ∨ (J 3 12 ≤ 1999 ∧
    ((∃ f, itm s t p x = .inl f ∧ (∀ a, a ≠ 3 → J2 a = J a) ∧ J2 3 1 = f.1 ∧ J2 3 2 = f.2 ∧ f.1 ≠ 0) ∨
    (∃ m a b v e, itm s t p x = .inr (m, a, b, v, e) ∧ ((100 < c + addOf x m (lenOf v l) ∧ (∀ a, a ≠ 3 → J2 a = J a) ∧ J2 3 1 = 4 ∧ J2 3 2 = p) ∨
      (c + addOf x m (lenOf v l) ≤ 100 ∧ Gr J J2 c (addOf x m (lenOf v l)) (ftI x (J 3 12)) (fbI x m a b) ∧ J2 3 1 = 0 ∧ J2 3 2 = J 3 2 ∧ J2 3 9 = (e : Nat) ∧ J2 3 11 = (lenOf v l : Nat) ∧ J2 3 12 = J 3 12 + (lenOf v l : Nat)))))))
theorem lng_ok {s : Nat → Int} {t p : Nat} {v : Int} {e : Nat} (hs : Sg s t) (hpt : p ≤ t) (h : lng s t p = .inr (v, e)) : 0 ≤ v ∧ v ≤ 64 ∧ p ≤ e ∧ e ≤ t := by
  have h1 := nb_le (s := s) hpt
  have h2 := nb_ge s t p
  rw [lng] at h
  split at h
  · rename_i hc
    have hlt : nb s t p < t := hs.lt (by omega)
    rcases hn : num s t (nb s t p + 1) 1 64 with f | ⟨v2, q, e2⟩
    · rw [hn] at h; cases h
    · rw [hn] at h
      injection h with h
      injection h with a1 a2
      have := num_ok hn
      have h3 := dg_le hs (nb_le (s := s) (p := nb s t p + 1) (t := t) (by omega))
      have h4 := nb_ge s t (nb s t p + 1)
      subst a1
      subst a2
      omega
  · injection h with h
    injection h with a1 a2
    omega
section ITEM
variable {n : Nat} {K : wKd} {J : wJn} {L : wLn} {R : wRf}
theorem s_X4_readItem (hy : Ly K R) {s : Nat → Int} {t p c l : Nat} (hT : Txt J s t) (hp : J 3 9 = p) (hpt : p < t) (hx : s p = 98 ∨ s p = 40 ∨ s p = 95 ∨ s p = 116) (hf : J 3 1 = 0) (htk : 0 ≤ J 3 12 ∧ J 3 12 ≤ 3000) (hl : J 3 11 = l) (hl2 : 1 ≤ l ∧ l ≤ 64) (hc : J 4 2 = c) (hc2 : c ≤ 100) : S_X4_readItem [.ref 3, .int (iI (s p))] n K (zw J) L R (fun r2 n2 K2 I2 L2 R2 => ∃ J2 : wJn, Det none n K (zw J2) L R r2 n2 K2 I2 L2 R2 ∧ RdI J J2 s t p c l (s p)) := by
  have h2 := hT.2.1
  have h3 := h2.1
  refine Sp_intro [some (.ref 3), some (.int (iI (s p))), none] rfl rfl (Nat.le_of_ble_eq_true rfl) rfl ?_
  intro Γ C
  replace C : C_X4_readItem Γ := C
  generalize hpost : (fun (r2 : Option Value) (n2 : Nat) (K2 : wKd) (I2 : wIn) (L2 : wLn) (R2 : wRf) => ∃ J2 : wJn, Det none n K (zw J2) L R r2 n2 K2 I2 L2 R2 ∧ RdI J J2 s t p c l (s p)) = post
  generalize hxe : s p = x at *
  have fin : ∀ J2 : wJn, J 3 12 ≤ 1999 → BdP J J2 t x (bod s t p x) → (∀ m a b e, bod s t p x = .inr (m, a, b, e) → e ≤ t) → wp Γ 0 0 (QQ Γ post) 86 [some (.ref 3), some (.int (iI x)), some (.int (iI p))] [] n K (zw J2) L R := by
    intro J2 htk2 hB hBe
    obtain ⟨b0, bb, ⟨p2, hp2, b9⟩, b1, ⟨m2, b15⟩, bf, bo⟩ := hB
    have hT2 : Txt J2 s t := hT.rows (b0 1 (by decide)) (b0 2 (by decide))
    refine w_aload_n (pc2 := 87) C dX4_readItem_86 rfl rfl ?_
    -- at 87: .invokevirtual 109
    refine w_gV (pc2 := 90)  C dX4_readItem_87 mb_X4_109 mv_X4_readLength (s_X4_readLength hy hT2 b9 hp2 b1) (by first | exact hy.k _ | assumption) rfl (by decide) rfl rfl (Nat.le_of_ble_eq_true rfl) ⟨by decide, by decide⟩ ⟨rfl, rfl⟩ ⟨by decide, by decide⟩ rfl ?_
    rintro r2 n2 K2 I2 L2 R2 ⟨J4, hD, x0, xb, x1, xf, xo⟩
    obtain ⟨d1, d2, d3, d4, d5, d6⟩ := hD
    replace d2 := d2.symm
    replace d3 := d3.symm
    replace d5 := d5.symm
    replace d6 := d6.symm
    subst d1
    subst d2
    subst d3
    subst d4
    subst d5
    subst d6
    have y0 : ∀ a, a ≠ 3 → J4 a = J a := fun a ha => by rw [x0 a ha]; exact b0 a ha
    have y8 : J4 3 8 = J 3 8 := by rw [xb 8 (by decide) (by decide) (by decide) (by decide) (by decide)]; exact bb 8 (by omega)
    have y12 : J4 3 12 = J 3 12 := by rw [xb 12 (by decide) (by decide) (by decide) (by decide) (by decide)]; exact bb 12 (by omega)
    refine w_aload_n (pc2 := 91) C dX4_readItem_90 rfl rfl ?_
    refine z_getI (pc2 := 94) C dX4_readItem_91 fl_X4_68 (by first | exact hy.k _ | assumption) rfl ?_
    -- at 94: .ifCond .ne 19
    refine z_if_ne (pc2 := 97) (tgt := 113) C dX4_readItem_94 (by decide) rfl (by omega) (fun g1 => ?_) (fun g1 => ?_)
    · skip
      exact w_ret C dX4_readItem_113 (by decide) (by decide) (by
        rw [← hpost]
        refine ⟨J4, DetI rfl rfl, x1, y8, Or.inr ⟨htk2, Or.inl ?_⟩⟩
        rcases hbd : bod s t p x with f | ⟨m, a, b, e⟩
        · obtain ⟨z1, z2, z3⟩ := bf f hbd
          obtain ⟨w1, w2⟩ := xf (by rw [z1]; exact z3)
          exact ⟨f, by unfold itm; rw [hbd], y0, by rw [w1, z1], by rw [w2, z2], z3⟩
        · obtain ⟨z1, z2, z3, z4, z5⟩ := bo m a b e hbd
          have ep : p2 = e := by rw [b9] at z4; omega
          subst ep
          rcases hln : lng s t p2 with f | ⟨v, e2⟩
          · obtain ⟨w1, w2, w3⟩ := (xo z1).1 f hln
            exact ⟨f, by unfold itm; rw [hbd]; show (match lng s t p2 with | .inl f => _ | .inr (v, e2) => _) = _; rw [hln], y0, w1, w2, w3⟩
          · obtain ⟨w1, -⟩ := (xo z1).2 v e2 hln
            exact absurd w1 g1)
    · -- no FAULT
      have hz2 : J2 3 1 = 0 := by
        rcases Decidable.em (J2 3 1 = 0) with q | q
        · exact q
        · have := (xf q).1; omega
      rcases hbd : bod s t p x with f | ⟨m, a, b, e⟩
      · obtain ⟨z1, z2, z3⟩ := bf f hbd
        exact absurd (z1.symm.trans hz2) z3
      · obtain ⟨z1, z2, z3, z4, z5⟩ := bo m a b e hbd
        have ep : p2 = e := by rw [b9] at z4; omega
        subst ep
        rcases hln : lng s t p2 with f | ⟨v, e2⟩
        · obtain ⟨w1, w2, w3⟩ := (xo z1).1 f hln
          exact absurd (w1.symm.trans g1) w3
        · obtain ⟨w1, w2, w9, w11⟩ := (xo z1).2 v e2 hln
          have hlo := lng_ok h2 hp2 hln
          have hit : itm s t p x = .inr (m, a, b, v, e2) := by
            unfold itm; rw [hbd]; show (match lng s t p2 with | .inl f => _ | .inr (v, e2) => _) = _; rw [hln]
          have e11 : J4 3 11 = (lenOf v l : Nat) := by
            rw [w11, bb 11 (by omega), hl, lenOf]
            split <;> omega
          have l64 : 1 ≤ lenOf v l ∧ lenOf v l ≤ 64 := by unfold lenOf; split <;> omega
          have e42 : J4 4 2 = c := by rw [y0 4 (by decide)]; exact hc
          have e15 : Msk (J4 3 15) m := by
            have q1 : J4 3 15 = J2 3 15 := xb 15 (by decide) (by decide) (by decide) (by decide) (by decide)
            have q2 : m2 = m := by have := b15.1; rw [z3] at this; omega
            rw [q1, ← q2]; exact b15
          have e13 : x = 116 → J4 3 13 = (a : Nat) ∧ J4 3 14 = (b : Nat) := fun q => by
            rw [xb 13 (by decide) (by decide) (by decide) (by decide) (by decide), xb 14 (by decide) (by decide) (by decide) (by decide) (by decide)]
            exact z5 q
          have toGr : ∀ (J5 : wJn) (k : Nat) (ft fb : Nat → Int), Gr J4 J5 c k ft fb → Gr J J5 c k ft fb := fun J5 k ft fb hg => by
            obtain ⟨a1, a2, a3, a4, a5⟩ := hg
            refine ⟨fun q q3 q4 q5 q6 => by rw [a1 q q3 q4 q5 q6]; exact y0 q q3, fun q hq => by rw [a2 q hq, y0 4 (by decide)], a3, fun i hi => ?_, a5⟩
            rw [← y0 5 (by decide), ← y0 6 (by decide)]
            exact a4 i hi
          refine w_aload_n (pc2 := 98) C dX4_readItem_97 rfl rfl ?_
          refine w_iload_n (pc2 := 99) C dX4_readItem_98 rfl rfl ?_
          refine w_bipush (pc2 := 101) (v := iI 116) C dX4_readItem_99 (by decide) rfl ?_
          -- at 101: .if_icmp .ne 7
          refine z_icmp_ne (pc2 := 104) (tgt := 108) C dX4_readItem_101 (by decide) rfl (by omega) (by omega) (fun g2 => ?_) (fun g2 => ?_)
          · -- BELLS at once
            refine w_iconst (pc2 := 109) (v := iI 0) C dX4_readItem_108 (by decide) rfl ?_
            refine w_iload_n (pc2 := 110) C dX4_readItem_109 rfl rfl ?_
            -- at 110: .invokevirtual 112
            refine w_gV (pc2 := 113)  C dX4_readItem_110 mb_X4_112 mv_X4_writeItem (s_X4_writeItem0 hy e42 hc2 e11 l64.2 g1 e15) (by first | exact hy.k _ | assumption) rfl (by decide) rfl rfl (Nat.le_of_ble_eq_true rfl) ⟨by decide, by decide⟩ ⟨rfl, rfl⟩ ⟨by decide, by decide⟩ rfl ?_
            rintro r2 n2 K2 I2 L2 R2 hp2
            have ea : addOf x m (lenOf v l) = popc m 24 := if_neg g2
            rcases hp2 with ⟨q1, q2⟩ | ⟨q1, J5, q2, q3, q4, q5⟩
            · obtain ⟨rfl, d2, d3, rfl, d5, d6⟩ := q2
              subst d2 d3 d5 d6
              -- at 113: .return_
              exact w_ret C dX4_readItem_113 (by decide) (by decide) (by
                rw [← hpost]
                refine ⟨_, DetI rfl rfl, by rw [flJ_1, if_pos g1]; omega, by rw [flJ_f (by decide) (by decide)]; exact y8, Or.inr ⟨htk2, Or.inr ⟨m, a, b, v, e2, hit, Or.inl ⟨by rw [ea]; exact q1, fun q hq => by rw [flJ_row hq]; exact y0 q hq, by rw [flJ_1, if_pos g1], by rw [flJ_2, if_pos g1]⟩⟩⟩⟩)
            · obtain ⟨rfl, d2, d3, rfl, d5, d6⟩ := q2
              subst d2 d3 d5 d6
              have efb : (fun i => (rnk m i 24 : Int)) = fbI x m a b := by funext i; simp only [fbI, if_neg g2]
              have eft : (fun _ : Nat => J4 3 12) = ftI x (J 3 12) := by funext i; simp only [ftI, if_neg g2]; exact y12
              rw [efb, eft] at q3
              -- at 113: .return_
              exact w_ret C dX4_readItem_113 (by decide) (by decide) (by
                rw [← hpost]
                refine ⟨_, DetI rfl rfl, by rw [q4 1 (by decide)]; exact x1, by rw [q4 8 (by decide)]; exact y8, Or.inr ⟨htk2, Or.inr ⟨m, a, b, v, e2, hit, Or.inr ⟨by rw [ea]; exact q1, by rw [ea]; exact toGr _ _ _ _ q3, by rw [q4 1 (by decide)]; exact g1, by rw [q4 2 (by decide), w2, z2], by rw [q4 9 (by decide)]; exact w9, by rw [q4 11 (by decide)]; exact e11, by rw [q5, y12, e11]⟩⟩⟩⟩)
          · -- in turn
            refine w_iconst (pc2 := 105) (v := iI 1) C dX4_readItem_104 (by decide) rfl ?_
            refine w_goto (tgt := 109) C dX4_readItem_105 (by decide) ?_
            refine w_iload_n (pc2 := 110) C dX4_readItem_109 rfl rfl ?_
            -- at 110: .invokevirtual 112
            refine w_gV (pc2 := 113)  C dX4_readItem_110 mb_X4_112 mv_X4_writeItem (s_X4_writeItem1 hy e42 hc2 e11 l64.2 g1) (by first | exact hy.k _ | assumption) rfl (by decide) rfl rfl (Nat.le_of_ble_eq_true rfl) ⟨by decide, by decide⟩ ⟨rfl, rfl⟩ ⟨by decide, by decide⟩ rfl ?_
            rintro r2 n2 K2 I2 L2 R2 hp2
            have ea : addOf x m (lenOf v l) = lenOf v l := if_pos g2
            rcases hp2 with ⟨q1, q2⟩ | ⟨q1, J5, q2, q3, q4, q5⟩
            · obtain ⟨rfl, d2, d3, rfl, d5, d6⟩ := q2
              subst d2 d3 d5 d6
              -- at 113: .return_
              exact w_ret C dX4_readItem_113 (by decide) (by decide) (by
                rw [← hpost]
                refine ⟨_, DetI rfl rfl, by rw [flJ_1, if_pos g1]; omega, by rw [flJ_f (by decide) (by decide)]; exact y8, Or.inr ⟨htk2, Or.inr ⟨m, a, b, v, e2, hit, Or.inl ⟨by rw [ea]; exact q1, fun q hq => by rw [flJ_row hq]; exact y0 q hq, by rw [flJ_1, if_pos g1], by rw [flJ_2, if_pos g1]⟩⟩⟩⟩)
            · obtain ⟨rfl, d2, d3, rfl, d5, d6⟩ := q2
              subst d2 d3 d5 d6
              have efb : fb1 J4 = fbI x m a b := by funext i; simp only [fb1, fbI, if_pos g2, (e13 g2).1, (e13 g2).2]
              have eft : ft1 J4 = ftI x (J 3 12) := by funext i; simp only [ft1, ftI, if_pos g2, y12]
              rw [efb, eft] at q3
              -- at 113: .return_
              exact w_ret C dX4_readItem_113 (by decide) (by decide) (by
                rw [← hpost]
                refine ⟨_, DetI rfl rfl, by rw [q4 1 (by decide)]; exact x1, by rw [q4 8 (by decide)]; exact y8, Or.inr ⟨htk2, Or.inr ⟨m, a, b, v, e2, hit, Or.inr ⟨by rw [ea]; exact q1, by rw [ea]; exact toGr _ _ _ _ q3, by rw [q4 1 (by decide)]; exact g1, by rw [q4 2 (by decide), w2, z2], by rw [q4 9 (by decide)]; exact w9, by rw [q4 11 (by decide)]; exact e11, by rw [q5, y12, e11]⟩⟩⟩⟩)
  refine w_aload_n (pc2 := 1) C dX4_readItem_0 rfl rfl ?_
  refine z_getI (pc2 := 4) C dX4_readItem_1 fl_X4_61 (by first | exact hy.k _ | assumption) rfl ?_
  refine w_istore_n (pc2 := 5) C dX4_readItem_4 rfl (by decide) rfl rfl ?_
  try dsimp only [List.set]
  refine w_aload_n (pc2 := 6) C dX4_readItem_5 rfl rfl ?_
  refine z_getI (pc2 := 9) C dX4_readItem_6 fl_X4_71 (by first | exact hy.k _ | assumption) rfl ?_
  refine w_sipush (pc2 := 12) (v := iI 1999) C dX4_readItem_9 (by decide) rfl ?_
  -- at 12: .if_icmp .le 10
  refine z_icmp_le (pc2 := 15) (tgt := 22) C dX4_readItem_12 (by decide) rfl (by omega) (by omega) (fun g1 => ?_) (fun g1 => ?_)
  · have hJ1 : ∃ J1, J1 = up2 (up2 J 3 9 ((p : Int) + 1)) 3 15 0 := ⟨_, rfl⟩
    obtain ⟨J1, eJ⟩ := hJ1
    have c0 : ∀ a, a ≠ 3 → J1 a = J a := fun a ha => by rw [eJ, up2_row ha, up2_row ha]
    have cb : ∀ b, b ≠ 9 → b ≠ 15 → J1 3 b = J 3 b := fun b b1 b2 => by rw [eJ, up2_n _ _ _ _ (by omega), up2_n _ _ _ _ (by omega)]
    have c9 : J1 3 9 = ((p + 1 : Nat) : Int) := by rw [eJ, up2_n _ _ _ _ (by omega), up2_s]; omega
    have c15 : J1 3 15 = 0 := by rw [eJ, up2_s]
    have c1 : J1 3 1 = 0 := by rw [cb 1 (by decide) (by decide)]; exact hf
    have hT1 : Txt J1 s t := hT.rows (c0 1 (by decide)) (c0 2 (by decide))
    have hm1 : Msk (J1 3 15) 0 := ⟨c15, by decide, by decide⟩
    have hxb : R32 x := by omega
    refine w_aload_n (pc2 := 23) C dX4_readItem_22 rfl rfl ?_
    refine w_dup (pc2 := 24) C dX4_readItem_23 rfl rfl ?_
    refine z_getI (pc2 := 27) C dX4_readItem_24 fl_X4_61 (by first | exact hy.k _ | assumption) rfl ?_
    refine w_iconst (pc2 := 28) (v := iI 1) C dX4_readItem_27 (by decide) rfl ?_
    refine z_iadd (pc2 := 29) C dX4_readItem_28 rfl ?_
    refine z_putI (pc2 := 32) C dX4_readItem_29 fl_X4_61 (by first | exact hy.k _ | assumption) (by rfl) (by rfl) rfl ?_
    refine w_aload_n (pc2 := 33) C dX4_readItem_32 rfl rfl ?_
    refine w_iconst (pc2 := 34) (v := iI 0) C dX4_readItem_33 (by decide) rfl ?_
    refine z_putI (pc2 := 37) C dX4_readItem_34 fl_X4_94 (by first | exact hy.k _ | assumption) (by rfl) (by rfl) rfl ?_
    refine w_iload_n (pc2 := 38) C dX4_readItem_37 rfl rfl ?_
    refine w_bipush (pc2 := 40) (v := iI 98) C dX4_readItem_38 (by decide) rfl ?_
    -- at 40: .if_icmp .ne 11
    rw [hp, ← eJ]
    refine z_icmp_ne (pc2 := 43) (tgt := 51) C dX4_readItem_40 (by decide) rfl (by omega) (by omega) (fun g2 => ?_) (fun g2 => ?_)
    · skip
      refine w_iload_n (pc2 := 52) C dX4_readItem_51 rfl rfl ?_
      refine w_bipush (pc2 := 54) (v := iI 40) C dX4_readItem_52 (by decide) rfl ?_
      -- at 54: .if_icmp .ne 10
      refine z_icmp_ne (pc2 := 57) (tgt := 64) C dX4_readItem_54 (by decide) rfl (by omega) (by omega) (fun g3 => ?_) (fun g3 => ?_)
      · skip
        refine w_iload_n (pc2 := 65) C dX4_readItem_64 rfl rfl ?_
        refine w_bipush (pc2 := 67) (v := iI 116) C dX4_readItem_65 (by decide) rfl ?_
        -- at 67: .if_icmp .ne 19
        refine z_icmp_ne (pc2 := 70) (tgt := 86) C dX4_readItem_67 (by decide) rfl (by omega) (by omega) (fun g4 => ?_) (fun g4 => ?_)
        · -- nothing is struck
          have hb : bod s t p x = .inr (0, 0, 0, p + 1) := by rw [bod, if_neg g2, if_neg g3, if_neg g4]
          refine fin J1 g1 ⟨c0, fun b hb => cb b (by omega) (by omega), ⟨p + 1, by omega, c9⟩, by omega, ⟨0, hm1⟩, fun f h => (by rw [hb] at h; cases h), fun m a b e h => ?_⟩ (fun m a b e h => ?_)
          · rw [hb] at h
            injection h with h
            injection h with h1 h
            injection h with h4 h
            injection h with h5 h6
            subst h1
            subst h6
            exact ⟨c1, cb 2 (by decide) (by decide), c15, c9, fun q => absurd q g4⟩
          · rw [hb] at h
            injection h with h
            injection h with h1 h
            injection h with h4 h
            injection h with h5 h6
            omega
        · -- in turn
          refine w_aload_n (pc2 := 71) C dX4_readItem_70 rfl rfl ?_
          refine w_aload_n (pc2 := 72) C dX4_readItem_71 rfl rfl ?_
          -- at 72: .invokevirtual 97
          refine w_gV (pc2 := 75)  C dX4_readItem_72 mb_X4_97 mv_X4_readBell (s_X4_readBell hy hT1 c9 (by omega) (by omega) hm1) (by first | exact hy.k _ | assumption) rfl (by decide) rfl rfl (Nat.le_of_ble_eq_true rfl) ⟨by decide, by decide⟩ ⟨rfl, rfl⟩ ⟨by decide, by decide⟩ rfl ?_
          rintro r2 n2 K2 I2 L2 R2 ⟨J4, v, hD, x0, xb, ⟨p4, hp4, x9⟩, x1, ⟨m4, x15⟩, xf, xo⟩
          obtain ⟨d1, d2, d3, d4, d5, d6⟩ := hD
          replace d2 := d2.symm
          replace d3 := d3.symm
          replace d5 := d5.symm
          replace d6 := d6.symm
          subst d1
          subst d2
          subst d3
          subst d4
          subst d5
          subst d6
          have xo := xo c1
          refine z_putI (pc2 := 78) C dX4_readItem_75 fl_X4_103 (by first | exact hy.k _ | assumption) (by rfl) (by rfl) rfl ?_
          refine w_aload_n (pc2 := 79) C dX4_readItem_78 rfl rfl ?_
          refine w_aload_n (pc2 := 80) C dX4_readItem_79 rfl rfl ?_
          -- at 80: .invokevirtual 97
          have hT4 : Txt (up2 J4 3 13 v) s t := hT1.rows (by rw [up2_row (by decide)]; exact x0 1 (by decide)) (by rw [up2_row (by decide)]; exact x0 2 (by decide))
          refine w_gV (pc2 := 83)  C dX4_readItem_80 mb_X4_97 mv_X4_readBell (s_X4_readBell hy hT4 (p := p4) (by rw [up2_n _ _ _ _ (by omega)]; exact x9) hp4 (by rw [up2_n _ _ _ _ (by omega)]; exact x1) (m := m4) (by rw [up2_n _ _ _ _ (by omega)]; exact x15)) (by first | exact hy.k _ | assumption) rfl (by decide) rfl rfl (Nat.le_of_ble_eq_true rfl) ⟨by decide, by decide⟩ ⟨rfl, rfl⟩ ⟨by decide, by decide⟩ rfl ?_
          rintro r2 n2 K2 I2 L2 R2 ⟨J6, w, hD, y0, yb, y9, y1, y15, yf, yo⟩
          obtain ⟨d1, d2, d3, d4, d5, d6⟩ := hD
          replace d2 := d2.symm
          replace d3 := d3.symm
          replace d5 := d5.symm
          replace d6 := d6.symm
          subst d1
          subst d2
          subst d3
          subst d4
          subst d5
          subst d6
          rw [up2_n _ _ _ _ (show ¬ (3 = 3 ∧ 1 = 13) by omega)] at yf yo
          rw [up2_n _ _ _ _ (show ¬ (3 = 3 ∧ 2 = 13) by omega)] at yf yo
          refine z_putI (pc2 := 86) C dX4_readItem_83 fl_X4_106 (by first | exact hy.k _ | assumption) (by rfl) (by rfl) rfl ?_
          -- at 86: .aload_n 0
          have z0 : ∀ a, a ≠ 3 → up2 J6 3 14 w a = J a := fun a ha => by rw [up2_row ha, y0 a ha, up2_row ha, x0 a ha]; exact c0 a ha
          have zb : ∀ b, b = 8 ∨ b = 11 ∨ b = 12 → up2 J6 3 14 w 3 b = J 3 b := fun b hb => by
            rw [up2_n _ _ _ _ (by omega), yb b (by omega) (by omega) (by omega) (by omega) (by omega), up2_n _ _ _ _ (by omega), xb b (by omega) (by omega) (by omega) (by omega) (by omega)]
            exact cb b (by omega) (by omega)
          have z9 : ∃ p2 : Nat, p2 ≤ t ∧ up2 J6 3 14 w 3 9 = p2 := by
            obtain ⟨q, q1, q2⟩ := y9
            exact ⟨q, q1, by rw [up2_n _ _ _ _ (by omega)]; exact q2⟩
          have z1 : 0 ≤ up2 J6 3 14 w 3 1 ∧ up2 J6 3 14 w 3 1 ≤ 4 := by rw [up2_n _ _ _ _ (by omega)]; exact y1
          have z15 : ∃ m2, Msk (up2 J6 3 14 w 3 15) m2 := by rw [up2_n _ _ _ _ (by omega)]; exact y15
          have hb : bod s t p x = (match bel s t (p + 1) 0 with
              | .inl f => .inl f
              | .inr (a, e) => match bel s t e (0 ||| 2 ^ a) with
                | .inl f => .inl f
                | .inr (b, e2) => .inr ((0 ||| 2 ^ a) ||| 2 ^ b, a, b, e2)) := by rw [bod, if_neg g2, if_neg g3, if_pos g4]
          rcases h1 : bel s t (p + 1) 0 with f | ⟨a, e⟩
          · rw [h1] at hb
            have hb : bod s t p x = .inl f := hb
            obtain ⟨u1, u2, u3⟩ := xo.1 f h1
            obtain ⟨k1, k2⟩ := yf (by rw [u1]; exact u3)
            exact fin _ g1 ⟨z0, zb, z9, z1, z15, fun f2 h => (by rw [hb] at h; injection h with h; subst h; exact ⟨by rw [up2_n _ _ _ _ (by omega), k1, u1], by rw [up2_n _ _ _ _ (by omega), k2, u2], u3⟩), fun m a b e h => (by rw [hb] at h; cases h)⟩ (fun m a b e h => (by rw [hb] at h; cases h))
          · obtain ⟨u1, u2, u3, u4, u5⟩ := xo.2 a e h1
            have ep : p4 = e := by rw [x9] at u4; omega
            have em : m4 = 0 ||| 2 ^ a := by have := x15.1; rw [u3] at this; omega
            subst ep
            subst em
            rw [h1] at hb
            have hb : bod s t p x = (match bel s t p4 (0 ||| 2 ^ a) with
                | .inl f => .inl f
                | .inr (b, e2) => .inr ((0 ||| 2 ^ a) ||| 2 ^ b, a, b, e2)) := hb
            have yo := yo u1
            rcases h4 : bel s t p4 (0 ||| 2 ^ a) with f | ⟨b, e2⟩
            · rw [h4] at hb
              have hb : bod s t p x = .inl f := hb
              obtain ⟨k1, k2, k3⟩ := yo.1 f h4
              exact fin _ g1 ⟨z0, zb, z9, z1, z15, fun f2 h => (by rw [hb] at h; injection h with h; subst h; exact ⟨by rw [up2_n _ _ _ _ (by omega), k1], by rw [up2_n _ _ _ _ (by omega), k2], k3⟩), fun m a b e h => (by rw [hb] at h; cases h)⟩ (fun m a b e h => (by rw [hb] at h; cases h))
            · rw [h4] at hb
              have hb : bod s t p x = .inr ((0 ||| 2 ^ a) ||| 2 ^ b, a, b, e2) := hb
              obtain ⟨k1, k2, k3, k4, k5⟩ := yo.2 b e2 h4
              obtain ⟨o1, o2, -⟩ := bel_ok h2 hp4 h4
              refine fin _ g1 ⟨z0, zb, z9, z1, z15, fun f2 h => (by rw [hb] at h; cases h), fun m a2 b2 e3 h => ?_⟩ (fun m a2 b2 e3 h => ?_)
              · rw [hb] at h
                injection h with h
                injection h with q1 h
                injection h with q2 h
                injection h with q3 q4
                subst q1 q2 q3 q4
                refine ⟨by rw [up2_n _ _ _ _ (by omega), k1], by rw [up2_n _ _ _ _ (by omega), k2, u2]; exact cb 2 (by decide) (by decide), by rw [up2_n _ _ _ _ (by omega), k3], by rw [up2_n _ _ _ _ (by omega), k4], fun _ => ⟨?_, by rw [up2_s, k5]⟩⟩
                rw [up2_n _ _ _ _ (by omega), yb 13 (by decide) (by decide) (by decide) (by decide) (by decide), up2_s, u5]
              · rw [hb] at h
                injection h with h
                injection h with q1 h
                injection h with q2 h
                injection h with q3 q4
                omega
      · -- BELLS at once
        refine w_aload_n (pc2 := 58) C dX4_readItem_57 rfl rfl ?_
        -- at 58: .invokevirtual 100
        refine w_gV (pc2 := 61)  C dX4_readItem_58 mb_X4_100 mv_X4_readChord (s_X4_readChord hy hT1 c9 (by omega) c1 c15) (by first | exact hy.k _ | assumption) rfl (by decide) rfl rfl (Nat.le_of_ble_eq_true rfl) ⟨by decide, by decide⟩ ⟨rfl, rfl⟩ ⟨by decide, by decide⟩ rfl ?_
        rintro r2 n2 K2 I2 L2 R2 ⟨J4, hD, x0, xb, x9, x1, x15, xf, xo⟩
        obtain ⟨d1, d2, d3, d4, d5, d6⟩ := hD
        replace d2 := d2.symm
        replace d3 := d3.symm
        replace d5 := d5.symm
        replace d6 := d6.symm
        subst d1
        subst d2
        subst d3
        subst d4
        subst d5
        subst d6
        refine w_goto (tgt := 86) C dX4_readItem_61 (by decide) ?_
        -- at 86: .aload_n 0
        have hb : bod s t p x = (match crd s t (p + 1) with
            | .inl f => .inl f
            | .inr (m, e) => .inr (m, 0, 0, e)) := by rw [bod, if_neg g2, if_pos g3]
        have z0 : ∀ a, a ≠ 3 → J4 a = J a := fun a ha => by rw [x0 a ha]; exact c0 a ha
        have zb : ∀ b, b = 8 ∨ b = 11 ∨ b = 12 → J4 3 b = J 3 b := fun b hb => by rw [xb b (by omega) (by omega) (by omega) (by omega) (by omega)]; exact cb b (by omega) (by omega)
        rcases h1 : crd s t (p + 1) with f | ⟨m, e⟩
        · rw [h1] at hb
          have hb : bod s t p x = .inl f := hb
          obtain ⟨u1, u2, u3⟩ := xf f h1
          exact fin _ g1 ⟨z0, zb, x9, x1, x15, fun f2 h => (by rw [hb] at h; injection h with h; subst h; exact ⟨u1, u2, u3⟩), fun m a b e h => (by rw [hb] at h; cases h)⟩ (fun m a b e h => (by rw [hb] at h; cases h))
        · rw [h1] at hb
          have hb : bod s t p x = .inr (m, 0, 0, e) := hb
          obtain ⟨u1, u2, u3, u4⟩ := xo m e h1
          refine fin _ g1 ⟨z0, zb, x9, x1, x15, fun f2 h => (by rw [hb] at h; cases h), fun m2 a2 b2 e3 h => ?_⟩ (fun m2 a2 b2 e3 h => ?_)
          · rw [hb] at h
            injection h with h
            injection h with q1 h
            injection h with q2 h
            injection h with q3 q4
            subst q1 q4
            exact ⟨u1, by rw [u2]; exact cb 2 (by decide) (by decide), u3, u4, fun q => absurd q (by omega)⟩
          · rw [hb] at h
            injection h with h
            injection h with q1 h
            injection h with q2 h
            injection h with q3 q4
            obtain ⟨q, q5, q6⟩ := x9
            rw [q6] at u4
            omega
    · -- one BELL
      refine w_aload_n (pc2 := 44) C dX4_readItem_43 rfl rfl ?_
      -- at 44: .invokevirtual 97
      refine w_gV (pc2 := 47)  C dX4_readItem_44 mb_X4_97 mv_X4_readBell (s_X4_readBell hy hT1 c9 (by omega) (by omega) hm1) (by first | exact hy.k _ | assumption) rfl (by decide) rfl rfl (Nat.le_of_ble_eq_true rfl) ⟨by decide, by decide⟩ ⟨rfl, rfl⟩ ⟨by decide, by decide⟩ rfl ?_
      rintro r2 n2 K2 I2 L2 R2 ⟨J4, v, hD, x0, xb, x9, x1, x15, xf, xo⟩
      obtain ⟨d1, d2, d3, d4, d5, d6⟩ := hD
      replace d2 := d2.symm
      replace d3 := d3.symm
      replace d5 := d5.symm
      replace d6 := d6.symm
      subst d1
      subst d2
      subst d3
      subst d4
      subst d5
      subst d6
      have xo := xo c1
      refine w_pop (pc2 := 48) C dX4_readItem_47 rfl rfl ?_
      refine w_goto (tgt := 86) C dX4_readItem_48 (by decide) ?_
      -- at 86: .aload_n 0
      have hb : bod s t p x = (match bel s t (p + 1) 0 with
          | .inl f => .inl f
          | .inr (b, e) => .inr (0 ||| 2 ^ b, 0, 0, e)) := by rw [bod, if_pos g2]
      have z0 : ∀ a, a ≠ 3 → J4 a = J a := fun a ha => by rw [x0 a ha]; exact c0 a ha
      have zb : ∀ b, b = 8 ∨ b = 11 ∨ b = 12 → J4 3 b = J 3 b := fun b hb => by rw [xb b (by omega) (by omega) (by omega) (by omega) (by omega)]; exact cb b (by omega) (by omega)
      rcases h1 : bel s t (p + 1) 0 with f | ⟨b, e⟩
      · rw [h1] at hb
        have hb : bod s t p x = .inl f := hb
        obtain ⟨u1, u2, u3⟩ := xo.1 f h1
        exact fin _ g1 ⟨z0, zb, x9, x1, x15, fun f2 h => (by rw [hb] at h; injection h with h; subst h; exact ⟨u1, u2, u3⟩), fun m a b e h => (by rw [hb] at h; cases h)⟩ (fun m a b e h => (by rw [hb] at h; cases h))
      · rw [h1] at hb
        have hb : bod s t p x = .inr (0 ||| 2 ^ b, 0, 0, e) := hb
        obtain ⟨u1, u2, u3, u4, u5⟩ := xo.2 b e h1
        obtain ⟨o1, o2, -⟩ := bel_ok h2 (show p + 1 ≤ t by omega) h1
        refine fin _ g1 ⟨z0, zb, x9, x1, x15, fun f2 h => (by rw [hb] at h; cases h), fun m2 a2 b2 e3 h => ?_⟩ (fun m2 a2 b2 e3 h => ?_)
        · rw [hb] at h
          injection h with h
          injection h with q1 h
          injection h with q2 h
          injection h with q3 q4
          subst q1 q4
          exact ⟨u1, by rw [u2]; exact cb 2 (by decide) (by decide), u3, u4, fun q => absurd q (by omega)⟩
        · rw [hb] at h
          injection h with h
          injection h with q1 h
          injection h with q2 h
          injection h with q3 q4
          omega
  · skip
    refine w_aload_n (pc2 := 16) C dX4_readItem_15 rfl rfl ?_
    refine w_iconst (pc2 := 17) (v := iI 4) C dX4_readItem_16 (by decide) rfl ?_
    refine w_iload_n (pc2 := 18) C dX4_readItem_17 rfl rfl ?_
    -- at 18: .invokevirtual 64
    refine w_cVv (pc2 := 21)  C dX4_readItem_18 mb_X4_64 mv_X4_fail (s_X4_fail hy (by omega)) (by first | exact hy.k _ | assumption) rfl (by decide) rfl rfl (Nat.le_of_ble_eq_true rfl) ⟨by decide, by decide⟩ ⟨rfl, rfl⟩ ⟨by decide, by decide⟩ rfl ?_
    -- at 21: .return_
    exact w_ret C dX4_readItem_21 (by decide) (by decide) (by rw [← hpost]; exact ⟨_, DetI rfl rfl, by rw [flJ_1, if_pos hf]; omega, flJ_f (by decide) (by decide), Or.inl ⟨by omega, by rw [hp]⟩⟩)
end ITEM
