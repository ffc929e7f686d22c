/-- what settle leaves: the Setting's cells as they should be, all else as it was -/
def Sets (J J2 : wJn) (c : Nat) (ρ π : Int) : Prop := (∀ a, a ≠ 24 → a ≠ 25 → a ≠ 26 → a ≠ 27 → J2 a = J a) ∧ J2 24 6 = ρ ∧ J2 24 7 = π ∧ J2 24 2 = oJ J2 c c 0 0 ∧ J2 24 3 = ouJ J2 c c ∧ (∀ i, i < c → J2 25 i = whJ J2 c i) ∧ J2 26 0 = goJ J2 c 0 c ∧ J2 26 1 = goJ J2 c 1 c
theorem sp_inj {l r t o : Nat} (hr : r ≤ 100) (ho : o ≤ 100) (h : l * 101 + r = t * 101 + o) : l = t ∧ r = o := by
  rcases Nat.lt_trichotomy l t with q | q | q
  · omega
  · omega
  · omega
section THESET
variable {n : Nat} {K : wKd} {J : wJn} {L : wLn} {R : wRf}
theorem s_X6_settle (hy : Ly K R) {c : Nat} {ρ π : Int} (hm : Mus J c) (h1 : 1 ≤ ρ ∧ ρ ≤ 24) (h2 : 0 ≤ π ∧ π ≤ 10000) : S_X6_settle [.ref 24, .int (iI ρ), .int (iI π)] n K (zw J) L R (fun r2 n2 K2 I2 L2 R2 => ∃ J2 : wJn, Det none n K (zw J2) L R r2 n2 K2 I2 L2 R2 ∧ Sets J J2 c ρ π) := by
  have hc2 := hm.2.1
  have hJ0 : ∃ J0, J0 = up2 (up2 J 24 6 ρ) 24 7 π := ⟨_, rfl⟩
  obtain ⟨J0, eJ0⟩ := hJ0
  have r0 : ∀ a, a ≠ 24 → J0 a = J a := fun a ha => by rw [eJ0, up2_row ha, up2_row ha]
  have hm0 : Mus J0 c := hm.rows (r0 12 (by decide)) (r0 13 (by decide)) (r0 14 (by decide))
  have hc := hm0.1
  have f6 : J0 24 6 = ρ := by rw [eJ0, up2_n _ _ _ _ (by omega), up2_s]
  have f7 : J0 24 7 = π := by rw [eJ0, up2_s]
  have hr0 : RP J0 := by unfold RP; rw [f6, f7]; exact ⟨h1.1, h1.2, h2.1, h2.2⟩
  refine Sp_intro [some (.ref 24), some (.int (iI ρ)), some (.int (iI π)), none, none] rfl rfl (Nat.le_of_ble_eq_true rfl) rfl ?_
  intro Γ C
  replace C : C_X6_settle Γ := C
  generalize hpost : (fun (r2 : Option Value) (n2 : Nat) (K2 : wKd) (I2 : wIn) (L2 : wLn) (R2 : wRf) => ∃ J2 : wJn, Det none n K (zw J2) L R r2 n2 K2 I2 L2 R2 ∧ Sets J J2 c ρ π) = post
  -- what a table in the making gives
  have fac : ∀ J2 : wJn, (∀ a, a ≠ 27 → J2 a = J0 a) → Mus J2 c ∧ RP J2 ∧ oJ J2 c = oJ J0 c := fun J2 h => by
    refine ⟨hm0.rows (h 12 (by decide)) (h 13 (by decide)) (h 14 (by decide)), by unfold RP; rw [h 24 (by decide)]; exact hr0, ?_⟩
    unfold oJ LJ RJ
    rw [h 13 (by decide), h 14 (by decide), h 24 (by decide)]
  -- behind the table
  have fin : ∀ J2 : wJn, (∀ a, a ≠ 27 → J2 a = J0 a) → Dn J2 c (oJ J0 c) 0 → wp Γ 0 0 (QQ Γ post) 81 [some (.ref 24), some (.int (iI ρ)), some (.int (iI π)), none, none] [] n K (zw J2) L R := by
    intro J2 hrow hD
    obtain ⟨hm2, hr2, eo⟩ := fac J2 hrow
    refine w_aload_n (pc2 := 82) C dX6_settle_81 rfl rfl ?_
    refine w_aload_n (pc2 := 83) C dX6_settle_82 rfl rfl ?_
    refine w_iconst (pc2 := 84) (v := iI (-1)) C dX6_settle_83 (by decide) rfl ?_
    refine w_iconst (pc2 := 85) (v := iI (-1)) C dX6_settle_84 (by decide) rfl ?_
    -- at 85: .invokevirtual 41
    rw [show (-1 : Int) = ((0 : Nat) : Int) - 1 by omega]
    refine w_cVi (pc2 := 88)  C dX6_settle_85 mb_X6_41 mv_X6_leastRest (s_X6_leastRest hy hm2 hr2 (show 0 ≤ c by omega) (show 0 ≤ c by omega) (fun k _ hk => by
      have a1 := hD (k + 1) 0 (by omega) (by omega) (by omega) (by omega)
      have a2 := hD 0 (k + 1) (by omega) (by omega) (by omega) (by omega)
      rw [show max (k + 1) 0 = k + 1 by omega] at a1
      rw [show max 0 (k + 1) = k + 1 by omega] at a2
      rw [eo]
      exact ⟨a1, a2⟩)) (by first | exact hy.k _ | assumption) rfl (by decide) rfl rfl (Nat.le_of_ble_eq_true rfl) ⟨by decide, by decide⟩ ⟨rfl, rfl⟩ ⟨by decide, by decide⟩ rfl ?_
    rw [show c - max 0 0 = c by omega, eo]
    refine z_putI (pc2 := 91) C dX6_settle_88 fl_X6_44 (by first | exact hy.k _ | assumption) (by rfl) (by rfl) rfl ?_
    refine w_aload_n (pc2 := 92) C dX6_settle_91 rfl rfl ?_
    -- at 92: .invokevirtual 47
    have hJ3 : ∃ J3, J3 = up2 J2 24 2 (oJ J0 c c 0 0) := ⟨_, rfl⟩
    obtain ⟨J3, eJ3⟩ := hJ3
    have q1 : ∀ a, a ≠ 24 → J3 a = J2 a := fun a ha => by rw [eJ3, up2_row ha]
    have q6 : J3 24 6 = ρ := by rw [eJ3, up2_n _ _ _ _ (by omega), hrow 24 (by decide)]; exact f6
    have q7 : J3 24 7 = π := by rw [eJ3, up2_n _ _ _ _ (by omega), hrow 24 (by decide)]; exact f7
    have eo3 : oJ J3 c = oJ J0 c := by
      unfold oJ LJ RJ
      rw [q1 13 (by decide), q1 14 (by decide), hrow 13 (by decide), hrow 14 (by decide), q6, q7, f6, f7]
    have hm3 : Mus J3 c := hm2.rows (q1 12 (by decide)) (q1 13 (by decide)) (q1 14 (by decide))
    have hr3 : RP J3 := by unfold RP; rw [q6, q7]; exact ⟨h1.1, h1.2, h2.1, h2.2⟩
    have hD3 : Dn J3 c (oJ J3 c) 0 := fun l r a1 a2 a3 a4 => by rw [eo3, q1 27 (by decide)]; exact hD l r a1 a2 a3 a4
    have ht3 : J3 24 2 = oJ J3 c c 0 0 := by rw [eo3, eJ3, up2_s]
    rw [← eJ3]
    refine w_gV (pc2 := 95)  C dX6_settle_92 mb_X6_47 mv_X6_walk (s_X6_walk hy hm3 hr3 hD3 ht3) (by first | exact hy.k _ | assumption) rfl (by decide) rfl rfl (Nat.le_of_ble_eq_true rfl) ⟨by decide, by decide⟩ ⟨rfl, rfl⟩ ⟨by decide, by decide⟩ rfl ?_
    rintro r2 n2 K2 I2 L2 R2 ⟨J4, ⟨rfl, rfl, rfl, rfl, rfl, rfl⟩, hw⟩
    obtain ⟨w1, w2, w3, w4, w5, w6⟩ := hw
    have p6 := w2 6 (by decide)
    have p7 := w2 7 (by decide)
    have p2 := w2 2 (by decide)
    have e13 := w1 13 (by decide) (by decide) (by decide)
    have e14 := w1 14 (by decide) (by decide) (by decide)
    have eL : LJ J4 = LJ J3 := by unfold LJ; rw [e13, e14, p6]
    have eR : RJ J4 = RJ J3 := by unfold RJ; rw [e13, e14, p6]
    have eM : mJ J4 = mJ J3 := by unfold mJ; rw [e13, e14, p6]
    exact w_ret C dX6_settle_95 (by decide) (by decide) (by
      rw [← hpost]
      refine ⟨J4, DetI rfl rfl, fun a a1 a2 a3 a4 => by rw [w1 a a1 a2 a3, q1 a a1, hrow a a4, r0 a a1], by rw [p6, q6], by rw [p7, q7], ?_, ?_, ?_, ?_, ?_⟩
      · unfold oJ; rw [eL, eR, p7, p2]; exact ht3
      · unfold ouJ; rw [eL, eR, p7]; exact w3
      · unfold whJ; rw [eL, eR, p7]; exact w4
      · unfold goJ; rw [eL, eR, eM, p7]; exact w5
      · unfold goJ; rw [eL, eR, eM, p7]; exact w6)
  -- the inner loop
  have key2 : ∀ (d t o : Nat) (J2 : wJn), t ≤ c → o + d = t → (∀ a, a ≠ 27 → J2 a = J0 a) → Dn J2 c (oJ J0 c) t → (∀ l r, l ≠ r → max l r = t → min l r < o → J2 27 (l * 101 + r) = oJ J0 c (c - t) l r) →
      (∀ J3 : wJn, (∀ a, a ≠ 27 → J3 a = J0 a) → Dn J3 c (oJ J0 c) (t - 1) → wp Γ 0 0 (QQ Γ post) 75 [some (.ref 24), some (.int (iI ρ)), some (.int (iI π)), some (.int (iI ((t : Int) - 1))), none] [] n K (zw J3) L R) →
      wp Γ 0 0 (QQ Γ post) 27 [some (.ref 24), some (.int (iI ρ)), some (.int (iI π)), some (.int (iI ((t : Int) - 1))), some (.int (iI ((o : Int) - 1)))] [] n K (zw J2) L R := by
    intro d
    induction d with
    | zero =>
      intro t o J2 htc hd hrow hD hmin hk
      refine w_iload (pc2 := 29) C dX6_settle_27 rfl rfl ?_
      refine w_iload_n (pc2 := 30) C dX6_settle_29 rfl rfl ?_
      -- at 30: .if_icmp .ge 45
      refine z_icmp_ge (pc2 := 33) (tgt := 75) C dX6_settle_30 (by decide) rfl (by omega) (by omega) (fun q1 => ?_) (fun q1 => ?_)
      · refine w_drop (hk J2 hrow (fun l r a1 a2 a3 a4 => ?_)) ⟨rfl, rfl, rfl, rfl, trivial⟩
        by_cases e : max l r = t
        · rw [e]; exact hmin l r a1 e (by omega)
        · exact hD l r a1 a2 a3 (by omega)
      · exact absurd hd (by omega)
    | succ d ih =>
      intro t o J2 htc hd hrow hD hmin hk
      obtain ⟨hm2, hr2, eo⟩ := fac J2 hrow
      refine w_iload (pc2 := 29) C dX6_settle_27 rfl rfl ?_
      refine w_iload_n (pc2 := 30) C dX6_settle_29 rfl rfl ?_
      -- at 30: .if_icmp .ge 45
      refine z_icmp_ge (pc2 := 33) (tgt := 75) C dX6_settle_30 (by decide) rfl (by omega) (by omega) (fun q1 => ?_) (fun q1 => ?_)
      · exact absurd hd (by omega)
      · skip
        refine w_aload_n (pc2 := 34) C dX6_settle_33 rfl rfl ?_
        refine w_getR (pc2 := 37) C dX6_settle_34 fl_X6_18 (by first | exact hy.k _ | assumption) (by first | exact hy.r _ _ | assumption) rfl ?_
        refine w_iload_n (pc2 := 38) C dX6_settle_37 rfl rfl ?_
        refine w_iload (pc2 := 40) C dX6_settle_38 rfl rfl ?_
        -- at 40: .invokestatic 37
        refine w_cSi (pc2 := 43)  C dX6_settle_40 mb_X6_37 ms_X6_spot (s_X6_spot) rfl rfl (Nat.le_of_ble_eq_true rfl) ⟨by decide, by decide⟩ ⟨rfl, rfl⟩ ⟨by decide, by decide⟩ rfl ?_
        refine w_aload_n (pc2 := 44) C dX6_settle_43 rfl rfl ?_
        refine w_iload_n (pc2 := 45) C dX6_settle_44 rfl rfl ?_
        refine w_iload (pc2 := 47) C dX6_settle_45 rfl rfl ?_
        -- at 47: .invokevirtual 41
        refine w_cVi (pc2 := 50)  C dX6_settle_47 mb_X6_41 mv_X6_leastRest (s_X6_leastRest hy hm2 hr2 (show t ≤ c by omega) (show o ≤ c by omega) (fun k hk1 hk => by
          have a1 := hD (k + 1) o (by omega) (by omega) (by omega) (by omega)
          have a2 := hD t (k + 1) (by omega) (by omega) (by omega) (by omega)
          rw [show max (k + 1) o = k + 1 by omega] at a1
          rw [show max t (k + 1) = k + 1 by omega] at a2
          rw [eo]
          exact ⟨a1, a2⟩)) (by first | exact hy.k _ | assumption) rfl (by decide) rfl rfl (Nat.le_of_ble_eq_true rfl) ⟨by decide, by decide⟩ ⟨rfl, rfl⟩ ⟨by decide, by decide⟩ rfl ?_
        rw [show max t o = t by omega, eo]
        refine z_iast (pc2 := 51) (j := t * 101 + o) C dX6_settle_50 (by first | exact hy.k _ | assumption) (by omega) (by omega) (by decide) rfl ?_
        have hJ3 : ∃ J3, J3 = up2 J2 27 (t * 101 + o) (oJ J0 c (c - t) t o) := ⟨_, rfl⟩
        obtain ⟨J3, eJ3⟩ := hJ3
        rw [← eJ3]
        have hrow3 : ∀ a, a ≠ 27 → J3 a = J0 a := fun a ha => by rw [eJ3, up2_row ha]; exact hrow a ha
        obtain ⟨hm3, hr3, eo3⟩ := fac J3 hrow3
        have hD3 : Dn J3 c (oJ J0 c) t := fun l r a1 a2 a3 a4 => by rw [eJ3, up2_n _ _ _ _ (fun q => by have := sp_inj (by omega) (by omega) q.2; omega)]; exact hD l r a1 a2 a3 a4
        refine w_aload_n (pc2 := 52) C dX6_settle_51 rfl rfl ?_
        refine w_getR (pc2 := 55) C dX6_settle_52 fl_X6_18 (by first | exact hy.k _ | assumption) (by first | exact hy.r _ _ | assumption) rfl ?_
        refine w_iload (pc2 := 57) C dX6_settle_55 rfl rfl ?_
        refine w_iload_n (pc2 := 58) C dX6_settle_57 rfl rfl ?_
        -- at 58: .invokestatic 37
        refine w_cSi (pc2 := 61)  C dX6_settle_58 mb_X6_37 ms_X6_spot (s_X6_spot) rfl rfl (Nat.le_of_ble_eq_true rfl) ⟨by decide, by decide⟩ ⟨rfl, rfl⟩ ⟨by decide, by decide⟩ rfl ?_
        refine w_aload_n (pc2 := 62) C dX6_settle_61 rfl rfl ?_
        refine w_iload (pc2 := 64) C dX6_settle_62 rfl rfl ?_
        refine w_iload_n (pc2 := 65) C dX6_settle_64 rfl rfl ?_
        -- at 65: .invokevirtual 41
        refine w_cVi (pc2 := 68)  C dX6_settle_65 mb_X6_41 mv_X6_leastRest (s_X6_leastRest hy hm3 hr3 (show o ≤ c by omega) (show t ≤ c by omega) (fun k hk1 hk => by
          have a1 := hD3 (k + 1) t (by omega) (by omega) (by omega) (by omega)
          have a2 := hD3 o (k + 1) (by omega) (by omega) (by omega) (by omega)
          rw [show max (k + 1) t = k + 1 by omega] at a1
          rw [show max o (k + 1) = k + 1 by omega] at a2
          rw [eo3]
          exact ⟨a1, a2⟩)) (by first | exact hy.k _ | assumption) rfl (by decide) rfl rfl (Nat.le_of_ble_eq_true rfl) ⟨by decide, by decide⟩ ⟨rfl, rfl⟩ ⟨by decide, by decide⟩ rfl ?_
        rw [show max o t = t by omega, eo3]
        refine z_iast (pc2 := 69) (j := o * 101 + t) C dX6_settle_68 (by first | exact hy.k _ | assumption) (by omega) (by omega) (by decide) rfl ?_
        refine w_iinc (pc2 := 72) C dX6_settle_69 rfl (iI_add _ _) rfl (by decide) rfl rfl ?_
        try dsimp only [List.set]
        refine w_goto (tgt := 27) C dX6_settle_72 (by decide) ?_
        -- at 27: .iload 4
        rw [show (o : Int) - 1 + 1 = ((o + 1 : Nat) : Int) - 1 by omega]
        refine ih t (o + 1) (up2 J3 27 (o * 101 + t) (oJ J0 c (c - t) o t)) htc (by omega) (fun a ha => by rw [up2_row ha]; exact hrow3 a ha) (fun l r a1 a2 a3 a4 => by rw [up2_n _ _ _ _ (fun q => by have := sp_inj (by omega) (by omega) q.2; omega)]; exact hD3 l r a1 a2 a3 a4) (fun l r a1 a2 a3 => ?_) hk
        by_cases c1 : l = o ∧ r = t
        · rw [c1.1, c1.2, up2_s]
        · rw [up2_n _ _ _ _ (fun q => by have := sp_inj (by omega) (by omega) q.2; omega), eJ3]
          by_cases c2 : l = t ∧ r = o
          · rw [c2.1, c2.2, up2_s]
          · rw [up2_n _ _ _ _ (fun q => by have := sp_inj (by omega) (by omega) q.2; omega)]
            exact hmin l r a1 a2 (by omega)
  have key1 : ∀ (t : Nat) (J2 : wJn), t ≤ c → (∀ a, a ≠ 27 → J2 a = J0 a) → Dn J2 c (oJ J0 c) t → wp Γ 0 0 (QQ Γ post) 20 [some (.ref 24), some (.int (iI ρ)), some (.int (iI π)), some (.int (iI ((t : Int) - 1))), none] [] n K (zw J2) L R := by
    intro t
    induction t with
    | zero =>
      intro J2 ht hrow hD
      refine w_iload_n (pc2 := 21) C dX6_settle_20 rfl rfl ?_
      -- at 21: .ifCond .lt 60
      refine z_if_lt (pc2 := 24) (tgt := 81) C dX6_settle_21 (by decide) rfl (by omega) (fun q1 => ?_) (fun q1 => ?_)
      · exact w_drop (fin J2 hrow hD) ⟨rfl, rfl, rfl, trivial⟩
      · exact absurd q1 (by omega)
    | succ t ih =>
      intro J2 ht hrow hD
      refine w_iload_n (pc2 := 21) C dX6_settle_20 rfl rfl ?_
      -- at 21: .ifCond .lt 60
      refine z_if_lt (pc2 := 24) (tgt := 81) C dX6_settle_21 (by decide) rfl (by omega) (fun q1 => ?_) (fun q1 => ?_)
      · exact absurd q1 (by omega)
      · skip
        refine w_iconst (pc2 := 25) (v := iI (-1)) C dX6_settle_24 (by decide) rfl ?_
        refine w_istore (pc2 := 27) C dX6_settle_25 rfl (by decide) rfl rfl ?_
        try dsimp only [List.set]
        -- at 27: .iload 4
        rw [show (-1 : Int) = ((0 : Nat) : Int) - 1 by omega]
        refine key2 (t + 1) (t + 1) 0 J2 ht (by omega) hrow hD (fun l r a1 a2 a3 => absurd a3 (by omega)) (fun J3 hrow3 hD3 => ?_)
        refine w_iinc (pc2 := 78) C dX6_settle_75 rfl (iI_add _ _) rfl (by decide) rfl rfl ?_
        try dsimp only [List.set]
        refine w_goto (tgt := 20) C dX6_settle_78 (by decide) ?_
        -- at 20: .iload_n 3
        rw [show ((t + 1 : Nat) : Int) - 1 + (-1) = (t : Int) - 1 by omega]
        exact ih J3 (by omega) hrow3 hD3
  refine w_aload_n (pc2 := 1) C dX6_settle_0 rfl rfl ?_
  refine w_iload_n (pc2 := 2) C dX6_settle_1 rfl rfl ?_
  refine z_putI (pc2 := 5) C dX6_settle_2 fl_X6_25 (by first | exact hy.k _ | assumption) (by rfl) (by rfl) rfl ?_
  refine w_aload_n (pc2 := 6) C dX6_settle_5 rfl rfl ?_
  refine w_iload_n (pc2 := 7) C dX6_settle_6 rfl rfl ?_
  refine z_putI (pc2 := 10) C dX6_settle_7 fl_X6_29 (by first | exact hy.k _ | assumption) (by rfl) (by rfl) rfl ?_
  refine w_aload_n (pc2 := 11) C dX6_settle_10 rfl rfl ?_
  refine w_getR (pc2 := 14) C dX6_settle_11 fl_X6_21 (by first | exact hy.k _ | assumption) (by first | exact hy.r _ _ | assumption) rfl ?_
  refine z_getI (pc2 := 17) C dX6_settle_14 fl_X6_32 (by first | exact hy.k _ | assumption) rfl ?_
  refine w_iconst (pc2 := 18) (v := iI 1) C dX6_settle_17 (by decide) rfl ?_
  refine z_isub (pc2 := 19) C dX6_settle_18 rfl ?_
  refine w_istore_n (pc2 := 20) C dX6_settle_19 rfl (by decide) rfl rfl ?_
  try dsimp only [List.set]
  -- at 20: .iload_n 3
  rw [← eJ0]
  rw [hc]
  exact key1 c J0 (by omega) (fun _ _ => rfl) (fun l r a1 a2 a3 a4 => absurd a4 (by omega))
/-- whether THE SETTING's cells may be used: if settled, they are right -/
def SetOK (J : wJn) (c : Nat) : Prop := (J 0 7 = 0 ∨ J 0 7 = 1) ∧ (J 0 7 = 1 → Sets J J c (J 11 6) (J 11 7))
/-- behind theSetting(): settled, the Setting right, all else as it was -/
def TS (J J2 : wJn) (c : Nat) : Prop := (∀ a, a ≠ 0 → a ≠ 24 → a ≠ 25 → a ≠ 26 → a ≠ 27 → J2 a = J a) ∧ (∀ b, b ≠ 7 → J2 0 b = J 0 b) ∧ J2 0 7 = 1 ∧ Sets J2 J2 c (J2 11 6) (J2 11 7)
theorem Sets.of {J J2 J3 : wJn} {c : Nat} {ρ π : Int} (h : Sets J J2 c ρ π) (h1 : ∀ a, a ≠ 0 → J3 a = J2 a) : Sets J3 J3 c ρ π := by
  obtain ⟨s1, s2, s3, s4, s5, s6, s7, s8⟩ := h
  have e13 := h1 13 (by decide)
  have e14 := h1 14 (by decide)
  have e24 := h1 24 (by decide)
  have eL : LJ J3 = LJ J2 := by unfold LJ; rw [e13, e14, e24]
  have eR : RJ J3 = RJ J2 := by unfold RJ; rw [e13, e14, e24]
  have eM : mJ J3 = mJ J2 := by unfold mJ; rw [e13, e14, e24]
  refine ⟨fun _ _ _ _ _ => rfl, by rw [e24]; exact s2, by rw [e24]; exact s3, ?_, ?_, ?_, ?_, ?_⟩
  · unfold oJ; rw [eL, eR, e24]; exact s4
  · unfold ouJ; rw [eL, eR, e24]; exact s5
  · unfold whJ; rw [eL, eR, e24, h1 25 (by decide)]; exact s6
  · unfold goJ; rw [eL, eR, eM, e24, h1 26 (by decide)]; exact s7
  · unfold goJ; rw [eL, eR, eM, e24, h1 26 (by decide)]; exact s8
theorem s_X10_theSetting (hy : Ly K R) {c : Nat} (hm : Mus J c) (h1 : 1 ≤ J 11 6 ∧ J 11 6 ≤ 24) (h2 : 0 ≤ J 11 7 ∧ J 11 7 ≤ 10000) (hs : SetOK J c) : S_X10_theSetting [.ref 0] n K (zw J) L R (fun r2 n2 K2 I2 L2 R2 => ∃ J2 : wJn, Det (some (.ref 24)) n K (zw J2) L R r2 n2 K2 I2 L2 R2 ∧ TS J J2 c) := by
  have hs1 := hs.1
  refine Sp_intro [some (.ref 0)] rfl rfl (Nat.le_of_ble_eq_true rfl) rfl ?_
  intro Γ C
  replace C : C_X10_theSetting Γ := C
  refine w_aload_n (pc2 := 1) C dX10_theSetting_0 rfl rfl ?_
  refine z_getI (pc2 := 4) C dX10_theSetting_1 fl_X10_63 (by first | exact hy.k _ | assumption) rfl ?_
  -- at 4: .ifCond .ne 29
  refine z_if_ne (pc2 := 7) (tgt := 33) C dX10_theSetting_4 (by decide) rfl (by omega) (fun q1 => ?_) (fun q1 => ?_)
  · skip
    refine w_aload_n (pc2 := 34) C dX10_theSetting_33 rfl rfl ?_
    refine w_getR (pc2 := 37) C dX10_theSetting_34 fl_X10_45 (by first | exact hy.k _ | assumption) (by first | exact hy.r _ _ | assumption) rfl ?_
    -- at 37: .areturn
    exact w_aret C dX10_theSetting_37 (by decide) (by decide) (⟨J, DetI rfl rfl, fun _ _ _ _ _ _ => rfl, fun _ _ => rfl, by omega, hs.2 (by omega)⟩)
  · skip
    refine w_aload_n (pc2 := 8) C dX10_theSetting_7 rfl rfl ?_
    refine w_getR (pc2 := 11) C dX10_theSetting_8 fl_X10_45 (by first | exact hy.k _ | assumption) (by first | exact hy.r _ _ | assumption) rfl ?_
    refine w_aload_n (pc2 := 12) C dX10_theSetting_11 rfl rfl ?_
    refine w_getR (pc2 := 15) C dX10_theSetting_12 fl_X10_28 (by first | exact hy.k _ | assumption) (by first | exact hy.r _ _ | assumption) rfl ?_
    refine z_getI (pc2 := 18) C dX10_theSetting_15 fl_X10_120 (by first | exact hy.k _ | assumption) rfl ?_
    refine w_aload_n (pc2 := 19) C dX10_theSetting_18 rfl rfl ?_
    refine w_getR (pc2 := 22) C dX10_theSetting_19 fl_X10_28 (by first | exact hy.k _ | assumption) (by first | exact hy.r _ _ | assumption) rfl ?_
    refine z_getI (pc2 := 25) C dX10_theSetting_22 fl_X10_123 (by first | exact hy.k _ | assumption) rfl ?_
    -- at 25: .invokevirtual 227
    refine w_gV (pc2 := 28)  C dX10_theSetting_25 mb_X10_227 mv_X6_settle (s_X6_settle hy hm h1 h2) (by first | exact hy.k _ | assumption) rfl (by decide) rfl rfl (Nat.le_of_ble_eq_true rfl) ⟨by decide, by decide⟩ ⟨rfl, rfl⟩ ⟨by decide, by decide⟩ rfl ?_
    rintro r2 n2 K2 I2 L2 R2 ⟨J2, ⟨rfl, rfl, rfl, rfl, rfl, rfl⟩, hw⟩
    refine w_aload_n (pc2 := 29) C dX10_theSetting_28 rfl rfl ?_
    refine w_iconst (pc2 := 30) (v := iI 1) C dX10_theSetting_29 (by decide) rfl ?_
    refine z_putI (pc2 := 33) C dX10_theSetting_30 fl_X10_63 (by first | exact hy.k _ | assumption) (by rfl) (by rfl) rfl ?_
    refine w_aload_n (pc2 := 34) C dX10_theSetting_33 rfl rfl ?_
    refine w_getR (pc2 := 37) C dX10_theSetting_34 fl_X10_45 (by first | exact hy.k _ | assumption) (by first | exact hy.r _ _ | assumption) rfl ?_
    -- at 37: .areturn
    have h3 : ∀ a, a ≠ 0 → up2 J2 0 7 1 a = J2 a := fun a ha => up2_row ha
    exact w_aret C dX10_theSetting_37 (by decide) (by decide) (by
      refine ⟨up2 J2 0 7 1, DetI rfl rfl, fun a a0 a1 a2 a3 a4 => by rw [h3 a a0]; exact hw.1 a a1 a2 a3 a4, fun b hb => ?_, up2_s _ _ _ _, ?_⟩
      · rw [up2_n _ _ _ _ (by omega), hw.1 0 (by decide) (by decide) (by decide) (by decide)]
      · rw [h3 11 (by decide), hw.1 11 (by decide) (by decide) (by decide) (by decide)]
        exact hw.of h3)
theorem s_X10_cost (hy : Ly K R) {c : Nat} (hm : Mus J c) (h1 : 1 ≤ J 11 6 ∧ J 11 6 ≤ 24) (h2 : 0 ≤ J 11 7 ∧ J 11 7 ≤ 10000) (hs : SetOK J c) : S_X10_cost [.ref 0] n K (zw J) L R (fun r2 n2 K2 I2 L2 R2 => ∃ J2 : wJn, Det (some (.int (iI (J2 24 2)))) n K (zw J2) L R r2 n2 K2 I2 L2 R2 ∧ TS J J2 c) := by
  refine Sp_intro [some (.ref 0)] rfl rfl (Nat.le_of_ble_eq_true rfl) rfl ?_
  intro Γ C
  replace C : C_X10_cost Γ := C
  refine w_aload_n (pc2 := 1) C dX10_cost_0 rfl rfl ?_
  -- at 1: .invokevirtual 113
  refine w_gV (pc2 := 4)  C dX10_cost_1 mb_X10_113 mv_X10_theSetting (s_X10_theSetting hy hm h1 h2 hs) (by first | exact hy.k _ | assumption) rfl (by decide) rfl rfl (Nat.le_of_ble_eq_true rfl) ⟨by decide, by decide⟩ ⟨rfl, rfl⟩ ⟨by decide, by decide⟩ rfl ?_
  rintro r2 n2 K2 I2 L2 R2 ⟨J2, ⟨rfl, rfl, rfl, rfl, rfl, rfl⟩, hw⟩
  refine z_getI (pc2 := 7) C dX10_cost_4 fl_X10_126 (by first | exact hy.k _ | assumption) rfl ?_
  -- at 7: .ireturn
  exact w_iret C dX10_cost_7 (by decide) (by decide) (⟨J2, DetI rfl rfl, hw⟩)
theorem s_X10_by (hy : Ly K R) {c : Nat} {a : Int} (ha : R32 a) (hm : Mus J c) (h1 : 1 ≤ J 11 6 ∧ J 11 6 ≤ 24) (h2 : 0 ≤ J 11 7 ∧ J 11 7 ≤ 10000) (hs : SetOK J c) : S_X10_by [.ref 0, .int (iI a)] n K (zw J) L R (fun r2 n2 K2 I2 L2 R2 => (¬ (0 ≤ a ∧ a < c) ∧ Det (some (.int (iI (-1)))) n K (zw J) L R r2 n2 K2 I2 L2 R2) ∨ (0 ≤ a ∧ a < c ∧ ∃ J2 : wJn, Det (some (.int (iI (J2 25 a.toNat)))) n K (zw J2) L R r2 n2 K2 I2 L2 R2 ∧ TS J J2 c)) := by
  have hc := hm.1
  have hc2 := hm.2.1
  refine Sp_intro [some (.ref 0), some (.int (iI a))] rfl rfl (Nat.le_of_ble_eq_true rfl) rfl ?_
  intro Γ C
  replace C : C_X10_by Γ := C
  refine w_aload_n (pc2 := 1) C dX10_by_0 rfl rfl ?_
  refine w_getR (pc2 := 4) C dX10_by_1 fl_X10_28 (by first | exact hy.k _ | assumption) (by first | exact hy.r _ _ | assumption) rfl ?_
  refine w_getR (pc2 := 7) C dX10_by_4 fl_X10_38 (by first | exact hy.k _ | assumption) (by first | exact hy.r _ _ | assumption) rfl ?_
  refine w_iload_n (pc2 := 8) C dX10_by_7 rfl rfl ?_
  -- at 8: .invokevirtual 99
  refine w_cVi (pc2 := 11)  C dX10_by_8 mb_X10_99 mv_X5_has (s_X5_has (hy.k 12) ha (by omega)) (by first | exact hy.k _ | assumption) rfl (by decide) rfl rfl (Nat.le_of_ble_eq_true rfl) ⟨by decide, by decide⟩ ⟨rfl, rfl⟩ ⟨by decide, by decide⟩ rfl ?_
  -- at 11: .ifCond .ne 5
  refine z_if_ne (pc2 := 14) (tgt := 16) C dX10_by_11 (by decide) rfl (by split <;> omega) (fun q1 => ?_) (fun q1 => ?_)
  · have q2 : 0 ≤ a ∧ a < c := by
      rcases Decidable.em (0 ≤ a ∧ a < J 12 2) with q | q
      · omega
      · rw [if_neg q] at q1; exact absurd rfl q1
    refine w_aload_n (pc2 := 17) C dX10_by_16 rfl rfl ?_
    -- at 17: .invokevirtual 113
    refine w_gV (pc2 := 20)  C dX10_by_17 mb_X10_113 mv_X10_theSetting (s_X10_theSetting hy hm h1 h2 hs) (by first | exact hy.k _ | assumption) rfl (by decide) rfl rfl (Nat.le_of_ble_eq_true rfl) ⟨by decide, by decide⟩ ⟨rfl, rfl⟩ ⟨by decide, by decide⟩ rfl ?_
    rintro r2 n2 K2 I2 L2 R2 ⟨J2, ⟨rfl, rfl, rfl, rfl, rfl, rfl⟩, hw⟩
    refine w_getR (pc2 := 23) C dX10_by_20 fl_X10_133 (by first | exact hy.k _ | assumption) (by first | exact hy.r _ _ | assumption) rfl ?_
    refine w_iload_n (pc2 := 24) C dX10_by_23 rfl rfl ?_
    -- at 24: .iaload
    refine z_iald (pc2 := 25) (j := a.toNat) C dX10_by_24 (by first | exact hy.k _ | assumption) (by omega) (by omega) (by decide) rfl ?_
    exact w_iret C dX10_by_25 (by decide) (by decide) (Or.inr ⟨q2.1, q2.2, J2, DetI rfl rfl, hw⟩)
  · have q2 : ¬ (0 ≤ a ∧ a < c) := by
      intro q
      rw [if_pos (by omega)] at q1; exact absurd q1 (by decide)
    refine w_iconst (pc2 := 15) (v := iI (-1)) C dX10_by_14 (by decide) rfl ?_
    -- at 15: .ireturn
    exact w_iret C dX10_by_15 (by decide) (by decide) (Or.inl ⟨q2, DetI rfl rfl⟩)
theorem s_X10_way (hy : Ly K R) {c : Nat} {a : Int} (ha : R32 a) (hm : Mus J c) (h1 : 1 ≤ J 11 6 ∧ J 11 6 ≤ 24) (h2 : 0 ≤ J 11 7 ∧ J 11 7 ≤ 10000) (hs : SetOK J c) : S_X10_way [.ref 0, .int (iI a)] n K (zw J) L R (fun r2 n2 K2 I2 L2 R2 => (¬ (a = 0 ∨ a = 1) ∧ Det (some (.int (iI (-1)))) n K (zw J) L R r2 n2 K2 I2 L2 R2) ∨ ((a = 0 ∨ a = 1) ∧ ∃ J2 : wJn, Det (some (.int (iI (J2 26 a.toNat)))) n K (zw J2) L R r2 n2 K2 I2 L2 R2 ∧ TS J J2 c)) := by
  refine Sp_intro [some (.ref 0), some (.int (iI a))] rfl rfl (Nat.le_of_ble_eq_true rfl) rfl ?_
  intro Γ C
  replace C : C_X10_way Γ := C
  refine w_iload_n (pc2 := 1) C dX10_way_0 rfl rfl ?_
  -- at 1: .ifCond .eq 10
  refine z_if_eq (pc2 := 4) (tgt := 11) C dX10_way_1 (by decide) rfl (by omega) (fun q1 => ?_) (fun q1 => ?_)
  · skip
    refine w_aload_n (pc2 := 12) C dX10_way_11 rfl rfl ?_
    -- at 12: .invokevirtual 113
    refine w_gV (pc2 := 15)  C dX10_way_12 mb_X10_113 mv_X10_theSetting (s_X10_theSetting hy hm h1 h2 hs) (by first | exact hy.k _ | assumption) rfl (by decide) rfl rfl (Nat.le_of_ble_eq_true rfl) ⟨by decide, by decide⟩ ⟨rfl, rfl⟩ ⟨by decide, by decide⟩ rfl ?_
    rintro r2 n2 K2 I2 L2 R2 ⟨J2, ⟨rfl, rfl, rfl, rfl, rfl, rfl⟩, hw⟩
    refine w_getR (pc2 := 18) C dX10_way_15 fl_X10_136 (by first | exact hy.k _ | assumption) (by first | exact hy.r _ _ | assumption) rfl ?_
    refine w_iload_n (pc2 := 19) C dX10_way_18 rfl rfl ?_
    -- at 19: .iaload
    refine z_iald (pc2 := 20) (j := a.toNat) C dX10_way_19 (by first | exact hy.k _ | assumption) (by omega) (by omega) (by decide) rfl ?_
    exact w_iret C dX10_way_20 (by decide) (by decide) (Or.inr ⟨by omega, J2, DetI rfl rfl, hw⟩)
  · skip
    refine w_iload_n (pc2 := 5) C dX10_way_4 rfl rfl ?_
    refine w_iconst (pc2 := 6) (v := iI 1) C dX10_way_5 (by decide) rfl ?_
    -- at 6: .if_icmp .eq 5
    refine z_icmp_eq (pc2 := 9) (tgt := 11) C dX10_way_6 (by decide) rfl (by omega) (by omega) (fun q2 => ?_) (fun q2 => ?_)
    · skip
      refine w_aload_n (pc2 := 12) C dX10_way_11 rfl rfl ?_
      -- at 12: .invokevirtual 113
      refine w_gV (pc2 := 15)  C dX10_way_12 mb_X10_113 mv_X10_theSetting (s_X10_theSetting hy hm h1 h2 hs) (by first | exact hy.k _ | assumption) rfl (by decide) rfl rfl (Nat.le_of_ble_eq_true rfl) ⟨by decide, by decide⟩ ⟨rfl, rfl⟩ ⟨by decide, by decide⟩ rfl ?_
      rintro r2 n2 K2 I2 L2 R2 ⟨J2, ⟨rfl, rfl, rfl, rfl, rfl, rfl⟩, hw⟩
      refine w_getR (pc2 := 18) C dX10_way_15 fl_X10_136 (by first | exact hy.k _ | assumption) (by first | exact hy.r _ _ | assumption) rfl ?_
      refine w_iload_n (pc2 := 19) C dX10_way_18 rfl rfl ?_
      -- at 19: .iaload
      refine z_iald (pc2 := 20) (j := a.toNat) C dX10_way_19 (by first | exact hy.k _ | assumption) (by omega) (by omega) (by decide) rfl ?_
      exact w_iret C dX10_way_20 (by decide) (by decide) (Or.inr ⟨by omega, J2, DetI rfl rfl, hw⟩)
    · skip
      refine w_iconst (pc2 := 10) (v := iI (-1)) C dX10_way_9 (by decide) rfl ?_
      -- at 10: .ireturn
      exact w_iret C dX10_way_10 (by decide) (by decide) (Or.inl ⟨by omega, DetI rfl rfl⟩)
theorem s_X10_count (hy : Ly K R) {c : Nat} {a : Int} (ha : R32 a) (hm : Mus J c) (h1 : 1 ≤ J 11 6 ∧ J 11 6 ≤ 24) (h2 : 0 ≤ J 11 7 ∧ J 11 7 ≤ 10000) (hs : SetOK J c) : S_X10_count [.ref 0, .int (iI a)] n K (zw J) L R (fun r2 n2 K2 I2 L2 R2 => (¬ a = 2 ∧ Det (some (.int (iI (if a = 0 then J 12 2 else if a = 1 then J 12 3 else -1)))) n K (zw J) L R r2 n2 K2 I2 L2 R2) ∨ (a = 2 ∧ ∃ J2 : wJn, Det (some (.int (iI (J2 24 3)))) n K (zw J2) L R r2 n2 K2 I2 L2 R2 ∧ TS J J2 c)) := by
  refine Sp_intro [some (.ref 0), some (.int (iI a))] rfl rfl (Nat.le_of_ble_eq_true rfl) rfl ?_
  intro Γ C
  replace C : C_X10_count Γ := C
  refine w_iload_n (pc2 := 1) C dX10_count_0 rfl rfl ?_
  -- at 1: .tableswitch 57 0 2 #[27, 38, 49]
  refine z_tab3 (t0 := 28) (t1 := 39) (t2 := 50) (td := 58) C dX10_count_1 (by decide) (by decide) (by decide) (by decide) (by omega) (fun q1 => ?_) (fun q1 => ?_) (fun q1 => ?_) (fun q1 => ?_)
  · skip
    refine w_aload_n (pc2 := 29) C dX10_count_28 rfl rfl ?_
    refine w_getR (pc2 := 32) C dX10_count_29 fl_X10_28 (by first | exact hy.k _ | assumption) (by first | exact hy.r _ _ | assumption) rfl ?_
    refine w_getR (pc2 := 35) C dX10_count_32 fl_X10_38 (by first | exact hy.k _ | assumption) (by first | exact hy.r _ _ | assumption) rfl ?_
    refine z_getI (pc2 := 38) C dX10_count_35 fl_X10_98 (by first | exact hy.k _ | assumption) rfl ?_
    -- at 38: .ireturn
    exact w_iret C dX10_count_38 (by decide) (by decide) (Or.inl ⟨by omega, DetI (by rw [if_pos q1]) rfl⟩)
  · skip
    refine w_aload_n (pc2 := 40) C dX10_count_39 rfl rfl ?_
    refine w_getR (pc2 := 43) C dX10_count_40 fl_X10_28 (by first | exact hy.k _ | assumption) (by first | exact hy.r _ _ | assumption) rfl ?_
    refine w_getR (pc2 := 46) C dX10_count_43 fl_X10_38 (by first | exact hy.k _ | assumption) (by first | exact hy.r _ _ | assumption) rfl ?_
    refine z_getI (pc2 := 49) C dX10_count_46 fl_X10_110 (by first | exact hy.k _ | assumption) rfl ?_
    -- at 49: .ireturn
    exact w_iret C dX10_count_49 (by decide) (by decide) (Or.inl ⟨by omega, DetI (by rw [if_neg (by omega), if_pos q1]) rfl⟩)
  · skip
    refine w_aload_n (pc2 := 51) C dX10_count_50 rfl rfl ?_
    -- at 51: .invokevirtual 113
    refine w_gV (pc2 := 54)  C dX10_count_51 mb_X10_113 mv_X10_theSetting (s_X10_theSetting hy hm h1 h2 hs) (by first | exact hy.k _ | assumption) rfl (by decide) rfl rfl (Nat.le_of_ble_eq_true rfl) ⟨by decide, by decide⟩ ⟨rfl, rfl⟩ ⟨by decide, by decide⟩ rfl ?_
    rintro r2 n2 K2 I2 L2 R2 ⟨J2, ⟨rfl, rfl, rfl, rfl, rfl, rfl⟩, hw⟩
    refine z_getI (pc2 := 57) C dX10_count_54 fl_X10_117 (by first | exact hy.k _ | assumption) rfl ?_
    -- at 57: .ireturn
    exact w_iret C dX10_count_57 (by decide) (by decide) (Or.inr ⟨q1, J2, DetI rfl rfl, hw⟩)
  · skip
    refine w_iconst (pc2 := 59) (v := iI (-1)) C dX10_count_58 (by decide) rfl ?_
    -- at 59: .ireturn
    exact w_iret C dX10_count_59 (by decide) (by decide) (Or.inl ⟨by omega, DetI (by rw [if_neg (by omega), if_neg (by omega)]) rfl⟩)
theorem s_X10_play (hy : Ly K R) {c m s : Nat} {a : Int} (ha : R32 a) (hm : Mus J c) (h1 : 1 ≤ J 11 6 ∧ J 11 6 ≤ 24) (h2 : 0 ≤ J 11 7 ∧ J 11 7 ≤ 10000) (hs : SetOK J c) (hp : Pin J m s) : S_X10_play [.ref 0, .int (iI a)] n K (zw J) L R (fun r2 n2 K2 I2 L2 R2 => (a = 1 ∧ Det (some (.int (iI m))) n K (zw J) (pdL L (J 20) m) R r2 n2 K2 I2 L2 R2) ∨ (¬ (a = 0 ∨ a = 1) ∧ Det (some (.int (iI (-1)))) n K (zw J) L R r2 n2 K2 I2 L2 R2) ∨ (a = 0 ∧ ∃ J2 : wJn, Det (some (.int (iI (cntN (fun k => decide (¬ J2 25 k = 2)) c)))) n K (zw J2) (pfL L (J2 14) (J2 25) c) R r2 n2 K2 I2 L2 R2 ∧ TS J J2 c)) := by
  refine Sp_intro [some (.ref 0), some (.int (iI a))] rfl rfl (Nat.le_of_ble_eq_true rfl) rfl ?_
  intro Γ C
  replace C : C_X10_play Γ := C
  refine w_iload_n (pc2 := 1) C dX10_play_0 rfl rfl ?_
  -- at 1: .lookupswitch 67 #[(0, 27), (1, 49)]
  refine z_look01 (t0 := 28) (t1 := 50) (td := 68) C dX10_play_1 (by decide) (by decide) (by decide) (by omega) (fun q1 => ?_) (fun q1 => ?_) (fun q1 => ?_)
  · skip
    refine w_aload_n (pc2 := 29) C dX10_play_28 rfl rfl ?_
    refine w_getR (pc2 := 32) C dX10_play_29 fl_X10_28 (by first | exact hy.k _ | assumption) (by first | exact hy.r _ _ | assumption) rfl ?_
    refine w_getR (pc2 := 35) C dX10_play_32 fl_X10_200 (by first | exact hy.k _ | assumption) (by first | exact hy.r _ _ | assumption) rfl ?_
    refine w_aload_n (pc2 := 36) C dX10_play_35 rfl rfl ?_
    refine w_getR (pc2 := 39) C dX10_play_36 fl_X10_28 (by first | exact hy.k _ | assumption) (by first | exact hy.r _ _ | assumption) rfl ?_
    refine w_getR (pc2 := 42) C dX10_play_39 fl_X10_38 (by first | exact hy.k _ | assumption) (by first | exact hy.r _ _ | assumption) rfl ?_
    refine w_aload_n (pc2 := 43) C dX10_play_42 rfl rfl ?_
    -- at 43: .invokevirtual 113
    refine w_gV (pc2 := 46)  C dX10_play_43 mb_X10_113 mv_X10_theSetting (s_X10_theSetting hy hm h1 h2 hs) (by first | exact hy.k _ | assumption) rfl (by decide) rfl rfl (Nat.le_of_ble_eq_true rfl) ⟨by decide, by decide⟩ ⟨rfl, rfl⟩ ⟨by decide, by decide⟩ rfl ?_
    rintro r2 n2 K2 I2 L2 R2 ⟨J2, ⟨rfl, rfl, rfl, rfl, rfl, rfl⟩, hw⟩
    have hm2 : Mus J2 c := hm.rows (hw.1 12 (by decide) (by decide) (by decide) (by decide) (by decide)) (hw.1 13 (by decide) (by decide) (by decide) (by decide) (by decide)) (hw.1 14 (by decide) (by decide) (by decide) (by decide) (by decide))
    have hwh : ∀ k, k < c → R32 (J2 25 k) := fun k hk => by
      have e := hw.2.2.2.2.2.2.2.2.1 k hk
      have : whJ J2 c k ≤ 2 := by
        unfold whJ whoF
        have h9 := hm2.2.1
        rw [show c - k = (c - k - 1) + 1 by omega, chs]
        split
        · omega
        · split <;> omega
      omega
    refine w_cVi (pc2 := 49)  C dX10_play_46 mb_X10_204 mv_X0_playByFists (s_X0_playByFists hy hm2 hwh) (by first | exact hy.k _ | assumption) rfl (by decide) rfl rfl (Nat.le_of_ble_eq_true rfl) ⟨by decide, by decide⟩ ⟨rfl, rfl⟩ ⟨by decide, by decide⟩ rfl ?_
    -- at 49: .ireturn
    exact w_iret C dX10_play_49 (by decide) (by decide) (Or.inr (Or.inr ⟨q1, J2, DetL rfl rfl rfl, hw⟩))
  · skip
    refine w_aload_n (pc2 := 51) C dX10_play_50 rfl rfl ?_
    refine w_getR (pc2 := 54) C dX10_play_51 fl_X10_28 (by first | exact hy.k _ | assumption) (by first | exact hy.r _ _ | assumption) rfl ?_
    refine w_getR (pc2 := 57) C dX10_play_54 fl_X10_200 (by first | exact hy.k _ | assumption) (by first | exact hy.r _ _ | assumption) rfl ?_
    refine w_aload_n (pc2 := 58) C dX10_play_57 rfl rfl ?_
    refine w_getR (pc2 := 61) C dX10_play_58 fl_X10_28 (by first | exact hy.k _ | assumption) (by first | exact hy.r _ _ | assumption) rfl ?_
    refine w_getR (pc2 := 64) C dX10_play_61 fl_X10_162 (by first | exact hy.k _ | assumption) (by first | exact hy.r _ _ | assumption) rfl ?_
    -- at 64: .invokevirtual 210
    refine w_cVi (pc2 := 67)  C dX10_play_64 mb_X10_210 mv_X0_playByDrum (s_X0_playByDrum hy hp) (by first | exact hy.k _ | assumption) rfl (by decide) rfl rfl (Nat.le_of_ble_eq_true rfl) ⟨by decide, by decide⟩ ⟨rfl, rfl⟩ ⟨by decide, by decide⟩ rfl ?_
    -- at 67: .ireturn
    exact w_iret C dX10_play_67 (by decide) (by decide) (Or.inl ⟨q1, DetL rfl rfl rfl⟩)
  · skip
    refine w_iconst (pc2 := 69) (v := iI (-1)) C dX10_play_68 (by decide) rfl ?_
    -- at 69: .ireturn
    exact w_iret C dX10_play_69 (by decide) (by decide) (Or.inr (Or.inl ⟨by omega, DetI rfl rfl⟩))
end THESET
