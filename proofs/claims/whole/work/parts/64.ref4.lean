/-! ===== the reference: quarrels and THE DRUM ===== -/
/-- the first j steps without pins -/
def zp (J : wJn) (j : Nat) : wJn := fun x y => if x = 35 ∧ 233 ≤ y ∧ y < 233 + j then 0 else J x y
theorem zp_0 (J : wJn) : zp J 0 = J := by
  funext x y
  simp only [zp]
  rw [if_neg (by omega)]
theorem zp_up (J : wJn) (j : Nat) : up2 (zp J j) 35 (233 + j) 0 = zp J (j + 1) := by
  funext x y
  simp only [zp, up2]
  by_cases h : x = 35 ∧ y = 233 + j
  · rw [if_pos h, if_pos (by omega)]
  · rw [if_neg h]
    by_cases h2 : x = 35 ∧ 233 ≤ y ∧ y < 233 + j
    · rw [if_pos h2, if_pos (by omega)]
    · rw [if_neg h2, if_neg (by omega)]
theorem zp_row {J : wJn} {j a : Nat} (h : a ≠ 35) : zp J j a = J a := by
  funext y
  simp only [zp]
  rw [if_neg (by omega)]
theorem zp_o {J : wJn} {j y : Nat} (h : ¬ (233 ≤ y ∧ y < 233 + j)) : zp J j 35 y = J 35 y := by
  simp only [zp]
  rw [if_neg (by omega)]
theorem zp_in {J : wJn} {j i : Nat} (h : i < j) : zp J j 35 (233 + i) = 0 := by
  unfold zp
  rw [if_pos ⟨rfl, by omega, by omega⟩]
def stp (tk : Nat → Int) (s : Nat) (k t : Nat) : Nat := ((tk k + t) % s).toNat
theorem stp_lt {tk : Nat → Int} {s k t : Nat} (h : 1 ≤ s) : stp tk s k t < s := by
  have h1 := Int.emod_lt_of_pos (tk k + t) (show (0 : Int) < s by omega)
  have h2 := Int.emod_nonneg (tk k + t) (show (s : Int) ≠ 0 by omega)
  unfold stp
  omega
theorem stp_eq {tk : Nat → Int} {s k t : Nat} (h : 1 ≤ s) : (tk k + t) % (s : Int) = (stp tk s k t : Nat) := by
  have h2 := Int.emod_nonneg (tk k + t) (show (s : Int) ≠ 0 by omega)
  unfold stp
  omega
/-- how many pins a TURN keeps -/
def kpR (tk bl : Nat → Int) (pm : Nat → Nat) (s t j : Nat) : Nat := cntN (fun k => (pm (stp tk s k t)).testBit (bl k).toNat) j
/-- the first best, and what it is -/
def bmF (f : Nat → Int) : Nat → Nat × Int
  | 0 => (0, -1)
  | j + 1 => if (bmF f j).2 < f j then (j, f j) else bmF f j
theorem bmF_bd {f : Nat → Int} (h : ∀ i, 0 ≤ f i ∧ f i ≤ 100) : ∀ j, (bmF f j).1 ≤ j ∧ (0 < j → (bmF f j).1 < j) ∧ -1 ≤ (bmF f j).2 ∧ (bmF f j).2 ≤ 100
  | 0 => by simp [bmF]
  | j + 1 => by
    have := bmF_bd h j
    have h1 := h j
    simp only [bmF]
    split
    · exact ⟨by simp, by simp, by simp; omega, by simp; omega⟩
    · rename_i h2
      refine ⟨by omega, fun _ => ?_, by omega, by omega⟩
      by_cases e : 0 < j
      · have := this.2.1 e; omega
      · have e : j = 0 := by omega
        subst e
        simp [bmF] at h2
        omega
def pmS (tk bl : Nat → Int) (s t : Nat) : Nat → Nat → Nat
  | 0 => fun _ => 0
  | k + 1 => fun i => if i = stp tk s k t then pmS tk bl s t k i ||| 2 ^ (bl k).toNat else pmS tk bl s t k i
theorem pmS_bd {tk bl : Nat → Int} {s t c : Nat} (h : ∀ i, i < c → 0 ≤ bl i ∧ bl i < 24) : ∀ k i, k ≤ c → pmS tk bl s t k i < 2 ^ 24
  | 0, i, _ => by simp [pmS]
  | k + 1, i, hk => by
    have := pmS_bd (tk := tk) (s := s) (t := t) h k i (by omega)
    have h1 := h k (by omega)
    simp only [pmS]
    split
    · exact Nat.or_lt_two_pow this (Nat.pow_lt_pow_right (by decide) (by omega))
    · exact this
/-- its pins -/
def PnR (J : wJn) (s : Nat) (pm : Nat → Nat) : Prop := J 35 229 = s ∧ 1 ≤ s ∧ s ≤ 2063 ∧ ∀ i, i < s → J 35 (233 + i) = (pm i : Nat) ∧ pm i < 2 ^ 24
def ChR (J J2 : wJn) (c s : Nat) (t : Nat) : Prop := (∀ a, a ≠ 35 → J2 a = J a) ∧ (∀ y, y ≠ 230 → ¬ (233 ≤ y ∧ y < 233 + s) → J2 35 y = J 35 y) ∧ J2 35 230 = (t : Nat) ∧ ∀ i, i < s → J2 35 (233 + i) = (pmS (tR J) (bR J) s t c i : Nat)
def pnF (pm : Nat → Nat) (j : Nat) : Int := sumN (fun i => (popc (pm i) 24 : Nat)) j
section REF4
variable {n : Nat} {K : wKd} {J : wJn} {L : wLn} {R : wRf}
theorem s_X11_drum (hy : Ly K R) {a : Int} (ha : R32 a) : S_X11_drum [.ref 34, .int (iI a)] n K (zw J) L R (Det (some (.int (iI (if 1 ≤ a ∧ a ≤ 2063 then 1 else 0)))) n K (zw (if 1 ≤ a ∧ a ≤ 2063 then zp (up2 (up2 J 35 229 a) 35 230 (-1)) 2063 else J)) L R) := by
  refine Sp_intro [some (.ref 34), some (.int (iI a)), none] rfl rfl (Nat.le_of_ble_eq_true rfl) rfl ?_
  intro Γ C
  replace C : C_X11_drum Γ := C
  have key : ∀ (J2 : wJn) (d j : Nat), j + d = 2063 → wp Γ 0 0 (QQ Γ (Det (some (.int (iI 1))) n K (zw (zp J2 2063)) L R)) 34 [some (.ref 34), some (.int (iI a)), some (.int (iI j))] [] n K (zw (zp J2 j)) L R := by
    intro J2 d
    induction d with
    | zero =>
      intro j hj
      refine w_iload_n (pc2 := 35) C dX11_drum_34 rfl rfl ?_
      refine w_sipush (pc2 := 38) (v := iI 2063) C dX11_drum_35 (by decide) rfl ?_
      -- at 38: .if_icmp .ge 20
      refine z_icmp_ge (pc2 := 41) (tgt := 58) C dX11_drum_38 (by decide) rfl (by omega) (by omega) (fun g1 => ?_) (fun g1 => ?_)
      · skip
        refine w_iconst (pc2 := 59) (v := iI 1) C dX11_drum_58 (by decide) rfl ?_
        -- at 59: .ireturn
        exact w_zret C dX11_drum_59 (Or.inr rfl) (by decide) (by decide) (DetI rfl (by rw [show j = 2063 by omega]))
      · exact absurd hj (by omega)
    | succ d ih =>
      intro j hj
      refine w_iload_n (pc2 := 35) C dX11_drum_34 rfl rfl ?_
      refine w_sipush (pc2 := 38) (v := iI 2063) C dX11_drum_35 (by decide) rfl ?_
      -- at 38: .if_icmp .ge 20
      refine z_icmp_ge (pc2 := 41) (tgt := 58) C dX11_drum_38 (by decide) rfl (by omega) (by omega) (fun g1 => ?_) (fun g1 => ?_)
      · exact absurd hj (by omega)
      · skip
        refine w_aload_n (pc2 := 42) C dX11_drum_41 rfl rfl ?_
        refine w_getR (pc2 := 45) C dX11_drum_42 fl_X11_7 (by first | exact hy.k _ | assumption) (by first | exact hy.r _ _ | assumption) rfl ?_
        refine w_sipush (pc2 := 48) (v := iI 233) C dX11_drum_45 (by decide) rfl ?_
        refine w_iload_n (pc2 := 49) C dX11_drum_48 rfl rfl ?_
        refine z_iadd (pc2 := 50) C dX11_drum_49 rfl ?_
        refine w_iconst (pc2 := 51) (v := iI 0) C dX11_drum_50 (by decide) rfl ?_
        -- at 51: .iastore
        refine z_iast (pc2 := 52) (j := 233 + j) C dX11_drum_51 (by first | exact hy.k _ | assumption) (by omega) (by omega) (by decide) rfl ?_
        rw [zp_up]
        refine w_iinc (pc2 := 55) C dX11_drum_52 rfl (iI_add _ _) rfl (by decide) rfl rfl ?_
        try dsimp only [List.set]
        refine w_goto (tgt := 34) C dX11_drum_55 (by decide) ?_
        -- at 34: .iload_n 2
        exact ih (j + 1) (by omega)
  refine w_iload_n (pc2 := 1) C dX11_drum_0 rfl rfl ?_
  refine w_iconst (pc2 := 2) (v := iI 1) C dX11_drum_1 (by decide) rfl ?_
  -- at 2: .if_icmp .lt 10
  refine z_icmp_lt (pc2 := 5) (tgt := 12) C dX11_drum_2 (by decide) rfl (by omega) (by omega) (fun h1 => ?_) (fun h1 => ?_)
  · rw [if_neg (by omega), if_neg (by omega)]
    refine w_iconst (pc2 := 13) (v := iI 0) C dX11_drum_12 (by decide) rfl ?_
    -- at 13: .ireturn
    exact w_zret C dX11_drum_13 (Or.inl rfl) (by decide) (by decide) (DetI rfl rfl)
  · skip
    refine w_iload_n (pc2 := 6) C dX11_drum_5 rfl rfl ?_
    refine w_sipush (pc2 := 9) (v := iI 2063) C dX11_drum_6 (by decide) rfl ?_
    -- at 9: .if_icmp .le 5
    refine z_icmp_le (pc2 := 12) (tgt := 14) C dX11_drum_9 (by decide) rfl (by omega) (by omega) (fun h2 => ?_) (fun h2 => ?_)
    · rw [if_pos (by omega), if_pos (by omega)]
      refine w_aload_n (pc2 := 15) C dX11_drum_14 rfl rfl ?_
      refine w_getR (pc2 := 18) C dX11_drum_15 fl_X11_7 (by first | exact hy.k _ | assumption) (by first | exact hy.r _ _ | assumption) rfl ?_
      refine w_sipush (pc2 := 21) (v := iI 229) C dX11_drum_18 (by decide) rfl ?_
      refine w_iload_n (pc2 := 22) C dX11_drum_21 rfl rfl ?_
      -- at 22: .iastore
      refine z_iast (pc2 := 23) (j := 229) C dX11_drum_22 (by first | exact hy.k _ | assumption) (by omega) (by omega) (by decide) rfl ?_
      refine w_aload_n (pc2 := 24) C dX11_drum_23 rfl rfl ?_
      refine w_getR (pc2 := 27) C dX11_drum_24 fl_X11_7 (by first | exact hy.k _ | assumption) (by first | exact hy.r _ _ | assumption) rfl ?_
      refine w_sipush (pc2 := 30) (v := iI 230) C dX11_drum_27 (by decide) rfl ?_
      refine w_iconst (pc2 := 31) (v := iI (-1)) C dX11_drum_30 (by decide) rfl ?_
      -- at 31: .iastore
      refine z_iast (pc2 := 32) (j := 230) C dX11_drum_31 (by first | exact hy.k _ | assumption) (by omega) (by omega) (by decide) rfl ?_
      refine w_iconst (pc2 := 33) (v := iI 0) C dX11_drum_32 (by decide) rfl ?_
      refine w_istore_n (pc2 := 34) C dX11_drum_33 rfl (by decide) rfl rfl ?_
      try dsimp only [List.set]
      -- at 34: .iload_n 2
      have := key (up2 (up2 J 35 229 a) 35 230 (-1)) 2063 0 (by omega)
      rw [zp_0] at this
      exact this
    · rw [if_neg (by omega), if_neg (by omega)]
      refine w_iconst (pc2 := 13) (v := iI 0) C dX11_drum_12 (by decide) rfl ?_
      -- at 13: .ireturn
      exact w_zret C dX11_drum_13 (Or.inl rfl) (by decide) (by decide) (DetI rfl rfl)
theorem s_X11_pins (hy : Ly K R) {s : Nat} {pm : Nat → Nat} (hp : PnR J s pm) : S_X11_pins [.ref 34] n K (zw J) L R (Det (some (.int (iI (pnF pm s)))) n K (zw J) L R) := by
  obtain ⟨p1, p2, p3, p4⟩ := hp
  refine Sp_intro [some (.ref 34), none, none, none] rfl rfl (Nat.le_of_ble_eq_true rfl) rfl ?_
  intro Γ C
  replace C : C_X11_pins Γ := C
  generalize hpost : (Det (some (.int (iI (pnF pm s)))) n K (zw J) L R) = post
  have key : ∀ (d j : Nat), j + d = s → wp Γ 0 0 (QQ Γ post) 4 [some (.ref 34), some (.int (iI (pnF pm j))), some (.int (iI j)), none] [] n K (zw J) L R := by
    intro d
    induction d with
    | zero =>
      intro j hj
      refine w_iload_n (pc2 := 5) C dX11_pins_4 rfl rfl ?_
      refine w_aload_n (pc2 := 6) C dX11_pins_5 rfl rfl ?_
      refine w_getR (pc2 := 9) C dX11_pins_6 fl_X11_7 (by first | exact hy.k _ | assumption) (by first | exact hy.r _ _ | assumption) rfl ?_
      refine w_sipush (pc2 := 12) (v := iI 229) C dX11_pins_9 (by decide) rfl ?_
      -- at 12: .iaload
      refine z_iald (pc2 := 13) (j := 229) C dX11_pins_12 (by first | exact hy.k _ | assumption) (by omega) (by omega) (by decide) rfl ?_
      rw [p1]
      refine z_icmp_ge (pc2 := 16) (tgt := 53) C dX11_pins_13 (by decide) rfl (by omega) (by omega) (fun g1 => ?_) (fun g1 => ?_)
      · skip
        refine w_iload_n (pc2 := 54) C dX11_pins_53 rfl rfl ?_
        -- at 54: .ireturn
        exact w_iret C dX11_pins_54 (by decide) (by decide) (by rw [← hpost]; exact DetI (by rw [show j = s by omega]) rfl)
      · exact absurd hj (by omega)
    | succ d ih =>
      intro j hj
      have hpj := p4 j (by omega)
      have inn : ∀ (e b : Nat), b + e = 24 → wp Γ 0 0 (QQ Γ post) 18 [some (.ref 34), some (.int (iI (pnF pm j + (popc (pm j) b : Nat)))), some (.int (iI j)), some (.int (iI b))] [] n K (zw J) L R := by
        intro e
        induction e with
        | zero =>
          intro b hb
          refine w_iload_n (pc2 := 19) C dX11_pins_18 rfl rfl ?_
          refine w_bipush (pc2 := 21) (v := iI 24) C dX11_pins_19 (by decide) rfl ?_
          -- at 21: .if_icmp .ge 26
          refine z_icmp_ge (pc2 := 24) (tgt := 47) C dX11_pins_21 (by decide) rfl (by omega) (by omega) (fun g1 => ?_) (fun g1 => ?_)
          · skip
            refine w_iinc (pc2 := 50) C dX11_pins_47 rfl (iI_add _ _) rfl (by decide) rfl rfl ?_
            try dsimp only [List.set]
            refine w_goto (tgt := 4) C dX11_pins_50 (by decide) ?_
            -- at 4: .iload_n 2
            have nx := ih (j + 1) (by omega)
            rw [show pnF pm (j + 1) = pnF pm j + (popc (pm j) 24 : Nat) from rfl] at nx
            rw [show b = 24 by omega]
            exact w_drop nx ⟨rfl, rfl, rfl, trivial⟩
          · exact absurd hb (by omega)
        | succ e ihe =>
          intro b hb
          have nx := ihe (b + 1) (by omega)
          rw [popc_s] at nx
          refine w_iload_n (pc2 := 19) C dX11_pins_18 rfl rfl ?_
          refine w_bipush (pc2 := 21) (v := iI 24) C dX11_pins_19 (by decide) rfl ?_
          -- at 21: .if_icmp .ge 26
          refine z_icmp_ge (pc2 := 24) (tgt := 47) C dX11_pins_21 (by decide) rfl (by omega) (by omega) (fun g1 => ?_) (fun g1 => ?_)
          · exact absurd hb (by omega)
          · skip
            refine w_iload_n (pc2 := 25) C dX11_pins_24 rfl rfl ?_
            refine w_aload_n (pc2 := 26) C dX11_pins_25 rfl rfl ?_
            refine w_getR (pc2 := 29) C dX11_pins_26 fl_X11_7 (by first | exact hy.k _ | assumption) (by first | exact hy.r _ _ | assumption) rfl ?_
            refine w_sipush (pc2 := 32) (v := iI 233) C dX11_pins_29 (by decide) rfl ?_
            refine w_iload_n (pc2 := 33) C dX11_pins_32 rfl rfl ?_
            refine z_iadd (pc2 := 34) C dX11_pins_33 rfl ?_
            -- at 34: .iaload
            refine z_iald (pc2 := 35) (j := 233 + j) C dX11_pins_34 (by first | exact hy.k _ | assumption) (by omega) (by omega) (by decide) rfl ?_
            rw [hpj.1]
            refine w_iload_n (pc2 := 36) C dX11_pins_35 rfl rfl ?_
            refine w_ishr (pc2 := 37) C dX11_pins_36 rfl ?_
            refine w_iconst (pc2 := 38) (v := iI 1) C dX11_pins_37 (by decide) rfl ?_
            refine w_iand (pc2 := 39) C dX11_pins_38 rfl ?_
            -- at 39: .iadd
            rw [bit01 hpj.2 (by omega)]
            refine z_iadd (pc2 := 40) C dX11_pins_39 rfl ?_
            refine w_istore_n (pc2 := 41) C dX11_pins_40 rfl (by decide) rfl rfl ?_
            try dsimp only [List.set]
            refine w_iinc (pc2 := 44) C dX11_pins_41 rfl (iI_add _ _) rfl (by decide) rfl rfl ?_
            try dsimp only [List.set]
            refine w_goto (tgt := 18) C dX11_pins_44 (by decide) ?_
            -- at 18: .iload_n 3
            rw [show pnF pm j + (popc (pm j) b : Nat) + (if (pm j).testBit b = true then 1 else 0) = pnF pm j + ((popc (pm j) b + if (pm j).testBit b = true then 1 else 0 : Nat) : Int) by split <;> omega]
            exact nx
      refine w_iload_n (pc2 := 5) C dX11_pins_4 rfl rfl ?_
      refine w_aload_n (pc2 := 6) C dX11_pins_5 rfl rfl ?_
      refine w_getR (pc2 := 9) C dX11_pins_6 fl_X11_7 (by first | exact hy.k _ | assumption) (by first | exact hy.r _ _ | assumption) rfl ?_
      refine w_sipush (pc2 := 12) (v := iI 229) C dX11_pins_9 (by decide) rfl ?_
      -- at 12: .iaload
      refine z_iald (pc2 := 13) (j := 229) C dX11_pins_12 (by first | exact hy.k _ | assumption) (by omega) (by omega) (by decide) rfl ?_
      rw [p1]
      refine z_icmp_ge (pc2 := 16) (tgt := 53) C dX11_pins_13 (by decide) rfl (by omega) (by omega) (fun g1 => ?_) (fun g1 => ?_)
      · exact absurd g1 (by omega)
      · skip
        refine w_iconst (pc2 := 17) (v := iI 0) C dX11_pins_16 (by decide) rfl ?_
        refine w_istore_n (pc2 := 18) C dX11_pins_17 rfl (by decide) rfl rfl ?_
        try dsimp only [List.set]
        -- at 18: .iload_n 3
        have i0 := inn 24 0 (by omega)
        rw [show pnF pm j + (popc (pm j) 0 : Nat) = pnF pm j by show pnF pm j + ((0 : Nat) : Int) = _; omega] at i0
        exact i0
  refine w_iconst (pc2 := 1) (v := iI 0) C dX11_pins_0 (by decide) rfl ?_
  refine w_istore_n (pc2 := 2) C dX11_pins_1 rfl (by decide) rfl rfl ?_
  try dsimp only [List.set]
  refine w_iconst (pc2 := 3) (v := iI 0) C dX11_pins_2 (by decide) rfl ?_
  refine w_istore_n (pc2 := 4) C dX11_pins_3 rfl (by decide) rfl rfl ?_
  try dsimp only [List.set]
  -- at 4: .iload_n 2
  exact key s 0 (by omega)
theorem s_X11_change0 (hy : Ly K R) {c s k : Nat} (hm : MuR J c) (hs : J 35 229 = s) (hs2 : s ≤ 2063) (hk : k < c) (hb : (s : Int) ≤ tR J k) : S_X11_change [.ref 34] n K (zw J) L R (Det (some (.int (iI (-1)))) n K (zw J) L R) := by
  have hc2 := hm.2.1
  refine Sp_intro [some (.ref 34), none, none, none, none, none] rfl rfl (Nat.le_of_ble_eq_true rfl) rfl ?_
  intro Γ C
  replace C : C_X11_change Γ := C
  have key : ∀ (d j : Nat), j + d = k → wp Γ 0 0 (QQ Γ (Det (some (.int (iI (-1)))) n K (zw J) L R)) 2 [some (.ref 34), some (.int (iI j)), none, none, none, none] [] n K (zw J) L R := by
    intro d
    induction d with
    | zero =>
      intro j hj
      have e : j = k := by omega
      subst e
      have g := hm.2.2 j hk
      refine w_iload_n (pc2 := 3) C dX11_change_2 rfl rfl ?_
      refine w_aload_n (pc2 := 4) C dX11_change_3 rfl rfl ?_
      refine w_getR (pc2 := 7) C dX11_change_4 fl_X11_7 (by first | exact hy.k _ | assumption) (by first | exact hy.r _ _ | assumption) rfl ?_
      refine w_iconst (pc2 := 8) (v := iI 0) C dX11_change_7 (by decide) rfl ?_
      -- at 8: .iaload
      refine z_iald (pc2 := 9) (j := 0) C dX11_change_8 (by first | exact hy.k _ | assumption) (by omega) (by omega) (by decide) rfl ?_
      rw [hm.1]
      refine z_icmp_ge (pc2 := 12) (tgt := 39) C dX11_change_9 (by decide) rfl (by omega) (by omega) (fun g1 => ?_) (fun g1 => ?_)
      · exact absurd g1 (by omega)
      · skip
        refine w_aload_n (pc2 := 13) C dX11_change_12 rfl rfl ?_
        refine w_getR (pc2 := 16) C dX11_change_13 fl_X11_7 (by first | exact hy.k _ | assumption) (by first | exact hy.r _ _ | assumption) rfl ?_
        refine w_iconst (pc2 := 17) (v := iI 2) C dX11_change_16 (by decide) rfl ?_
        refine w_iload_n (pc2 := 18) C dX11_change_17 rfl rfl ?_
        refine z_iadd (pc2 := 19) C dX11_change_18 rfl ?_
        -- at 19: .iaload
        refine z_iald (pc2 := 20) (j := 2 + j) C dX11_change_19 (by first | exact hy.k _ | assumption) (by omega) (by omega) (by decide) rfl ?_
        refine w_aload_n (pc2 := 21) C dX11_change_20 rfl rfl ?_
        refine w_getR (pc2 := 24) C dX11_change_21 fl_X11_7 (by first | exact hy.k _ | assumption) (by first | exact hy.r _ _ | assumption) rfl ?_
        refine w_sipush (pc2 := 27) (v := iI 229) C dX11_change_24 (by decide) rfl ?_
        -- at 27: .iaload
        refine z_iald (pc2 := 28) (j := 229) C dX11_change_27 (by first | exact hy.k _ | assumption) (by omega) (by omega) (by decide) rfl ?_
        rw [hs]
        refine z_icmp_lt (pc2 := 31) (tgt := 33) C dX11_change_28 (by decide) rfl (by omega) (by omega) (fun g2 => ?_) (fun g2 => ?_)
        · exact absurd g2 (by have : tR J j = J 35 (2 + j) := rfl; omega)
        · skip
          refine w_iconst (pc2 := 32) (v := iI (-1)) C dX11_change_31 (by decide) rfl ?_
          -- at 32: .ireturn
          exact w_iret C dX11_change_32 (by decide) (by decide) (⟨rfl, rfl, rfl, rfl, rfl, rfl⟩)
    | succ d ih =>
      intro j hj
      have g := hm.2.2 j (by omega)
      refine w_iload_n (pc2 := 3) C dX11_change_2 rfl rfl ?_
      refine w_aload_n (pc2 := 4) C dX11_change_3 rfl rfl ?_
      refine w_getR (pc2 := 7) C dX11_change_4 fl_X11_7 (by first | exact hy.k _ | assumption) (by first | exact hy.r _ _ | assumption) rfl ?_
      refine w_iconst (pc2 := 8) (v := iI 0) C dX11_change_7 (by decide) rfl ?_
      -- at 8: .iaload
      refine z_iald (pc2 := 9) (j := 0) C dX11_change_8 (by first | exact hy.k _ | assumption) (by omega) (by omega) (by decide) rfl ?_
      rw [hm.1]
      refine z_icmp_ge (pc2 := 12) (tgt := 39) C dX11_change_9 (by decide) rfl (by omega) (by omega) (fun g1 => ?_) (fun g1 => ?_)
      · exact absurd g1 (by omega)
      · skip
        refine w_aload_n (pc2 := 13) C dX11_change_12 rfl rfl ?_
        refine w_getR (pc2 := 16) C dX11_change_13 fl_X11_7 (by first | exact hy.k _ | assumption) (by first | exact hy.r _ _ | assumption) rfl ?_
        refine w_iconst (pc2 := 17) (v := iI 2) C dX11_change_16 (by decide) rfl ?_
        refine w_iload_n (pc2 := 18) C dX11_change_17 rfl rfl ?_
        refine z_iadd (pc2 := 19) C dX11_change_18 rfl ?_
        -- at 19: .iaload
        refine z_iald (pc2 := 20) (j := 2 + j) C dX11_change_19 (by first | exact hy.k _ | assumption) (by omega) (by omega) (by decide) rfl ?_
        refine w_aload_n (pc2 := 21) C dX11_change_20 rfl rfl ?_
        refine w_getR (pc2 := 24) C dX11_change_21 fl_X11_7 (by first | exact hy.k _ | assumption) (by first | exact hy.r _ _ | assumption) rfl ?_
        refine w_sipush (pc2 := 27) (v := iI 229) C dX11_change_24 (by decide) rfl ?_
        -- at 27: .iaload
        refine z_iald (pc2 := 28) (j := 229) C dX11_change_27 (by first | exact hy.k _ | assumption) (by omega) (by omega) (by decide) rfl ?_
        rw [hs]
        refine z_icmp_lt (pc2 := 31) (tgt := 33) C dX11_change_28 (by decide) rfl (by omega) (by omega) (fun g2 => ?_) (fun g2 => ?_)
        · skip
          refine w_iinc (pc2 := 36) C dX11_change_33 rfl (iI_add _ _) rfl (by decide) rfl rfl ?_
          try dsimp only [List.set]
          refine w_goto (tgt := 2) C dX11_change_36 (by decide) ?_
          -- at 2: .iload_n 1
          exact ih (j + 1) (by omega)
        · skip
          refine w_iconst (pc2 := 32) (v := iI (-1)) C dX11_change_31 (by decide) rfl ?_
          -- at 32: .ireturn
          exact w_iret C dX11_change_32 (by decide) (by decide) (⟨rfl, rfl, rfl, rfl, rfl, rfl⟩)
  refine w_iconst (pc2 := 1) (v := iI 0) C dX11_change_0 (by decide) rfl ?_
  refine w_istore_n (pc2 := 2) C dX11_change_1 rfl (by decide) rfl rfl ?_
  try dsimp only [List.set]
  -- at 2: .iload_n 1
  exact key k 0 (by omega)
theorem s_X11_change (hy : Ly K R) {c s : Nat} {pm : Nat → Nat} (hm : MuR J c) (hp : PnR J s pm) (hb : ∀ k, k < c → tR J k < s) : S_X11_change [.ref 34] n K (zw J) L R (fun r2 n2 K2 I2 L2 R2 => ∃ J2 : wJn, Det (some (.int (iI ((c : Int) - (bmF (fun t => (kpR (tR J) (bR J) pm s t c : Nat)) s).2)))) n K (zw J2) L R r2 n2 K2 I2 L2 R2 ∧ ChR J J2 c s (bmF (fun t => (kpR (tR J) (bR J) pm s t c : Nat)) s).1) := by
  have hc2 := hm.2.1
  obtain ⟨p1, p2, p3, p4⟩ := hp
  refine Sp_intro [some (.ref 34), none, none, none, none, none] rfl rfl (Nat.le_of_ble_eq_true rfl) rfl ?_
  intro Γ C
  replace C : C_X11_change Γ := C
  generalize hpost : (fun (r2 : Option Value) (n2 : Nat) (K2 : wKd) (I2 : wIn) (L2 : wLn) (R2 : wRf) => ∃ J2 : wJn, Det (some (.int (iI ((c : Int) - (bmF (fun t => (kpR (tR J) (bR J) pm s t c : Nat)) s).2)))) n K (zw J2) L R r2 n2 K2 I2 L2 R2 ∧ ChR J J2 c s (bmF (fun t => (kpR (tR J) (bR J) pm s t c : Nat)) s).1) = post
  have kb : ∀ t, 0 ≤ (kpR (tR J) (bR J) pm s t c : Int) ∧ (kpR (tR J) (bR J) pm s t c : Int) ≤ 100 := fun t => by
    have := cntN_le (fun k => (pm (stp (tR J) s k t)).testBit (bR J k).toNat) c
    unfold kpR
    omega
  have bb := bmF_bd (f := fun t => (kpR (tR J) (bR J) pm s t c : Int)) kb
  have bs := bb s
  generalize hB : (bmF (fun t => (kpR (tR J) (bR J) pm s t c : Int)) s) = B at *
  have hB1 : B.1 < s := bs.2.1 (by omega)
  -- the new pins
  have key5 : ∀ (d j : Nat) (J2 : wJn), j + d = c → (∀ a, a ≠ 35 → J2 a = J a) → (∀ y, ¬ (233 ≤ y ∧ y < 233 + s) → J2 35 y = J 35 y) → (∀ i, i < s → J2 35 (233 + i) = (pmS (tR J) (bR J) s B.1 j i : Nat)) → wp Γ 0 0 (QQ Γ post) 169 [some (.ref 34), some (.int (iI B.1)), some (.int (iI B.2)), some (.int (iI j)), none, none] [] n K (zw J2) L R := by
    intro d
    induction d with
    | zero =>
      intro j J2 hj a1 a2 a3
      have e0 : J2 35 0 = c := by rw [a2 0 (by omega)]; exact hm.1
      have e02 : up2 J2 35 230 (B.1 : Nat) 35 0 = c := by rw [up2_n _ _ _ _ (by omega)]; exact e0
      refine w_iload_n (pc2 := 170) C dX11_change_169 rfl rfl ?_
      refine w_aload_n (pc2 := 171) C dX11_change_170 rfl rfl ?_
      refine w_getR (pc2 := 174) C dX11_change_171 fl_X11_7 (by first | exact hy.k _ | assumption) (by first | exact hy.r _ _ | assumption) rfl ?_
      refine w_iconst (pc2 := 175) (v := iI 0) C dX11_change_174 (by decide) rfl ?_
      -- at 175: .iaload
      refine z_iald (pc2 := 176) (j := 0) C dX11_change_175 (by first | exact hy.k _ | assumption) (by omega) (by omega) (by decide) rfl ?_
      rw [e0]
      refine z_icmp_ge (pc2 := 179) (tgt := 214) C dX11_change_176 (by decide) rfl (by omega) (by omega) (fun g1 => ?_) (fun g1 => ?_)
      · skip
        refine w_aload_n (pc2 := 215) C dX11_change_214 rfl rfl ?_
        refine w_getR (pc2 := 218) C dX11_change_215 fl_X11_7 (by first | exact hy.k _ | assumption) (by first | exact hy.r _ _ | assumption) rfl ?_
        refine w_sipush (pc2 := 221) (v := iI 230) C dX11_change_218 (by decide) rfl ?_
        refine w_iload_n (pc2 := 222) C dX11_change_221 rfl rfl ?_
        -- at 222: .iastore
        refine z_iast (pc2 := 223) (j := 230) C dX11_change_222 (by first | exact hy.k _ | assumption) (by omega) (by omega) (by decide) rfl ?_
        refine w_aload_n (pc2 := 224) C dX11_change_223 rfl rfl ?_
        refine w_getR (pc2 := 227) C dX11_change_224 fl_X11_7 (by first | exact hy.k _ | assumption) (by first | exact hy.r _ _ | assumption) rfl ?_
        refine w_iconst (pc2 := 228) (v := iI 0) C dX11_change_227 (by decide) rfl ?_
        -- at 228: .iaload
        refine z_iald (pc2 := 229) (j := 0) C dX11_change_228 (by first | exact hy.k _ | assumption) (by omega) (by omega) (by decide) rfl ?_
        rw [e02]
        refine w_iload_n (pc2 := 230) C dX11_change_229 rfl rfl ?_
        refine z_isub (pc2 := 231) C dX11_change_230 rfl ?_
        -- at 231: .ireturn
        exact w_iret C dX11_change_231 (by decide) (by decide) (by
          rw [← hpost]
          refine ⟨_, DetI rfl rfl, fun a ha => by rw [up2_row ha]; exact a1 a ha, fun y h1 h2 => by rw [up2_n _ _ _ _ (by omega)]; exact a2 y h2, by rw [up2_s], fun i hi => by rw [up2_n _ _ _ _ (by omega), a3 i hi, show j = c by omega]⟩)
      · exact absurd hj (by omega)
    | succ d ih =>
      intro j J2 hj a1 a2 a3
      have e0 : J2 35 0 = c := by rw [a2 0 (by omega)]; exact hm.1
      have e2 : J2 35 229 = s := by rw [a2 229 (by omega)]; exact p1
      have hm2 : MuR J2 c := ⟨e0, hc2, fun i hi => by rw [a2 _ (by omega), a2 _ (by omega)]; exact hm.2.2 i hi⟩
      have gj := hm.2.2 j (by omega)
      have e3 : J2 35 (102 + j) = J 35 (102 + j) := a2 _ (by omega)
      have hst := s_X11_stepOf (n := n) (L := L) (a := B.1) hy hm2 (show j < c by omega) e2 ⟨p2, p3⟩ (by omega)
      rw [show tR J2 j = tR J j from a2 _ (by omega), stp_eq p2] at hst
      have hsl := stp_lt (tk := tR J) (k := j) (t := B.1) p2
      have hq : ∀ i, i < s → up2 J2 35 (233 + stp (tR J) s j B.1) ((pmS (tR J) (bR J) s B.1 j (stp (tR J) s j B.1) ||| 2 ^ (J 35 (102 + j)).toNat : Nat) : Int) 35 (233 + i) = (pmS (tR J) (bR J) s B.1 (j + 1) i : Nat) := fun i hi => by
        simp only [pmS]
        by_cases e : i = stp (tR J) s j B.1
        · rw [← e, up2_s, if_pos rfl]
        · rw [up2_n _ _ _ _ (by omega), if_neg e]; exact a3 i hi
      have hn := a3 _ hsl
      generalize hz : stp (tR J) s j B.1 = z at *
      refine w_iload_n (pc2 := 170) C dX11_change_169 rfl rfl ?_
      refine w_aload_n (pc2 := 171) C dX11_change_170 rfl rfl ?_
      refine w_getR (pc2 := 174) C dX11_change_171 fl_X11_7 (by first | exact hy.k _ | assumption) (by first | exact hy.r _ _ | assumption) rfl ?_
      refine w_iconst (pc2 := 175) (v := iI 0) C dX11_change_174 (by decide) rfl ?_
      -- at 175: .iaload
      refine z_iald (pc2 := 176) (j := 0) C dX11_change_175 (by first | exact hy.k _ | assumption) (by omega) (by omega) (by decide) rfl ?_
      rw [e0]
      refine z_icmp_ge (pc2 := 179) (tgt := 214) C dX11_change_176 (by decide) rfl (by omega) (by omega) (fun g1 => ?_) (fun g1 => ?_)
      · exact absurd g1 (by omega)
      · skip
        refine w_aload_n (pc2 := 180) C dX11_change_179 rfl rfl ?_
        refine w_getR (pc2 := 183) C dX11_change_180 fl_X11_7 (by first | exact hy.k _ | assumption) (by first | exact hy.r _ _ | assumption) rfl ?_
        refine w_sipush (pc2 := 186) (v := iI 233) C dX11_change_183 (by decide) rfl ?_
        refine w_aload_n (pc2 := 187) C dX11_change_186 rfl rfl ?_
        refine w_iload_n (pc2 := 188) C dX11_change_187 rfl rfl ?_
        refine w_iload_n (pc2 := 189) C dX11_change_188 rfl rfl ?_
        -- at 189: .invokevirtual 152
        refine w_cVi (pc2 := 192)  C dX11_change_189 mb_X11_152 mv_X11_stepOf (hst) (by first | exact hy.k _ | assumption) rfl (by decide) rfl rfl (Nat.le_of_ble_eq_true rfl) ⟨by decide, by decide⟩ ⟨rfl, rfl⟩ ⟨by decide, by decide⟩ rfl ?_
        refine z_iadd (pc2 := 193) C dX11_change_192 rfl ?_
        refine w_dup2 (pc2 := 194) C dX11_change_193 rfl rfl rfl ?_
        -- at 194: .iaload
        refine z_iald (pc2 := 195) (j := 233 + z) C dX11_change_194 (by first | exact hy.k _ | assumption) (by omega) (by omega) (by decide) rfl ?_
        rw [hn]
        refine w_iconst (pc2 := 196) (v := iI 1) C dX11_change_195 (by decide) rfl ?_
        refine w_aload_n (pc2 := 197) C dX11_change_196 rfl rfl ?_
        refine w_getR (pc2 := 200) C dX11_change_197 fl_X11_7 (by first | exact hy.k _ | assumption) (by first | exact hy.r _ _ | assumption) rfl ?_
        refine w_bipush (pc2 := 202) (v := iI 102) C dX11_change_200 (by decide) rfl ?_
        refine w_iload_n (pc2 := 203) C dX11_change_202 rfl rfl ?_
        refine z_iadd (pc2 := 204) C dX11_change_203 rfl ?_
        -- at 204: .iaload
        refine z_iald (pc2 := 205) (j := 102 + j) C dX11_change_204 (by first | exact hy.k _ | assumption) (by omega) (by omega) (by decide) rfl ?_
        rw [e3]
        refine w_ishl (pc2 := 206) C dX11_change_205 rfl ?_
        refine w_ior (pc2 := 207) C dX11_change_206 rfl ?_
        -- at 207: .iastore
        rw [show iI (J 35 (102 + j)) = iI ((J 35 (102 + j)).toNat : Nat) by congr 1; omega, sh1_all (J 35 (102 + j)).toNat (by omega), or_i]
        refine z_iast (pc2 := 208) (j := 233 + z) C dX11_change_207 (by first | exact hy.k _ | assumption) (by omega) (by omega) (by decide) rfl ?_
        refine w_iinc (pc2 := 211) C dX11_change_208 rfl (iI_add _ _) rfl (by decide) rfl rfl ?_
        try dsimp only [List.set]
        refine w_goto (tgt := 169) C dX11_change_211 (by decide) ?_
        -- at 169: .iload_n 3
        exact ih (j + 1) _ (by omega) (fun a ha => by rw [up2_row ha]; exact a1 a ha) (fun y hy => by rw [up2_n _ _ _ _ (by omega)]; exact a2 y hy) hq
  -- the old pins go
  have key4 : ∀ (d j : Nat), j + d = s → wp Γ 0 0 (QQ Γ post) 138 [some (.ref 34), some (.int (iI B.1)), some (.int (iI B.2)), some (.int (iI j)), none, none] [] n K (zw (zp J j)) L R := by
    intro d
    induction d with
    | zero =>
      intro j hj
      have e2 : zp J j 35 229 = s := by rw [zp_o (by omega)]; exact p1
      refine w_iload_n (pc2 := 139) C dX11_change_138 rfl rfl ?_
      refine w_aload_n (pc2 := 140) C dX11_change_139 rfl rfl ?_
      refine w_getR (pc2 := 143) C dX11_change_140 fl_X11_7 (by first | exact hy.k _ | assumption) (by first | exact hy.r _ _ | assumption) rfl ?_
      refine w_sipush (pc2 := 146) (v := iI 229) C dX11_change_143 (by decide) rfl ?_
      -- at 146: .iaload
      refine z_iald (pc2 := 147) (j := 229) C dX11_change_146 (by first | exact hy.k _ | assumption) (by omega) (by omega) (by decide) rfl ?_
      rw [e2]
      refine z_icmp_ge (pc2 := 150) (tgt := 167) C dX11_change_147 (by decide) rfl (by omega) (by omega) (fun g1 => ?_) (fun g1 => ?_)
      · skip
        refine w_iconst (pc2 := 168) (v := iI 0) C dX11_change_167 (by decide) rfl ?_
        refine w_istore_n (pc2 := 169) C dX11_change_168 rfl (by decide) rfl rfl ?_
        try dsimp only [List.set]
        -- at 169: .iload_n 3
        refine w_drop (key5 c 0 _ (by omega) (fun a ha => zp_row ha) (fun y hy => zp_o (by omega)) (fun i hi => ?_)) ⟨rfl, rfl, rfl, rfl, trivial⟩
        rw [zp_in (by omega)]; rfl
      · exact absurd hj (by omega)
    | succ d ih =>
      intro j hj
      have e2 : zp J j 35 229 = s := by rw [zp_o (by omega)]; exact p1
      refine w_iload_n (pc2 := 139) C dX11_change_138 rfl rfl ?_
      refine w_aload_n (pc2 := 140) C dX11_change_139 rfl rfl ?_
      refine w_getR (pc2 := 143) C dX11_change_140 fl_X11_7 (by first | exact hy.k _ | assumption) (by first | exact hy.r _ _ | assumption) rfl ?_
      refine w_sipush (pc2 := 146) (v := iI 229) C dX11_change_143 (by decide) rfl ?_
      -- at 146: .iaload
      refine z_iald (pc2 := 147) (j := 229) C dX11_change_146 (by first | exact hy.k _ | assumption) (by omega) (by omega) (by decide) rfl ?_
      rw [e2]
      refine z_icmp_ge (pc2 := 150) (tgt := 167) C dX11_change_147 (by decide) rfl (by omega) (by omega) (fun g1 => ?_) (fun g1 => ?_)
      · exact absurd g1 (by omega)
      · skip
        refine w_aload_n (pc2 := 151) C dX11_change_150 rfl rfl ?_
        refine w_getR (pc2 := 154) C dX11_change_151 fl_X11_7 (by first | exact hy.k _ | assumption) (by first | exact hy.r _ _ | assumption) rfl ?_
        refine w_sipush (pc2 := 157) (v := iI 233) C dX11_change_154 (by decide) rfl ?_
        refine w_iload_n (pc2 := 158) C dX11_change_157 rfl rfl ?_
        refine z_iadd (pc2 := 159) C dX11_change_158 rfl ?_
        refine w_iconst (pc2 := 160) (v := iI 0) C dX11_change_159 (by decide) rfl ?_
        -- at 160: .iastore
        refine z_iast (pc2 := 161) (j := 233 + j) C dX11_change_160 (by first | exact hy.k _ | assumption) (by omega) (by omega) (by decide) rfl ?_
        rw [zp_up]
        refine w_iinc (pc2 := 164) C dX11_change_161 rfl (iI_add _ _) rfl (by decide) rfl rfl ?_
        try dsimp only [List.set]
        refine w_goto (tgt := 138) C dX11_change_164 (by decide) ?_
        -- at 138: .iload_n 3
        exact ih (j + 1) (by omega)
  -- the best TURN
  have key2 : ∀ (d j : Nat), j + d = s → wp Γ 0 0 (QQ Γ post) 45 [some (.ref 34), some (.int (iI (bmF (fun t => (kpR (tR J) (bR J) pm s t c : Int)) j).1)), some (.int (iI (bmF (fun t => (kpR (tR J) (bR J) pm s t c : Int)) j).2)), some (.int (iI j)), none, none] [] n K (zw J) L R := by
    intro d
    induction d with
    | zero =>
      intro j hj
      refine w_iload_n (pc2 := 46) C dX11_change_45 rfl rfl ?_
      refine w_aload_n (pc2 := 47) C dX11_change_46 rfl rfl ?_
      refine w_getR (pc2 := 50) C dX11_change_47 fl_X11_7 (by first | exact hy.k _ | assumption) (by first | exact hy.r _ _ | assumption) rfl ?_
      refine w_sipush (pc2 := 53) (v := iI 229) C dX11_change_50 (by decide) rfl ?_
      -- at 53: .iaload
      refine z_iald (pc2 := 54) (j := 229) C dX11_change_53 (by first | exact hy.k _ | assumption) (by omega) (by omega) (by decide) rfl ?_
      rw [p1]
      refine z_icmp_ge (pc2 := 57) (tgt := 136) C dX11_change_54 (by decide) rfl (by omega) (by omega) (fun g1 => ?_) (fun g1 => ?_)
      · skip
        refine w_iconst (pc2 := 137) (v := iI 0) C dX11_change_136 (by decide) rfl ?_
        refine w_istore_n (pc2 := 138) C dX11_change_137 rfl (by decide) rfl rfl ?_
        try dsimp only [List.set]
        -- at 138: .iload_n 3
        have h0 := key4 s 0 (by omega)
        rw [zp_0] at h0
        rw [show j = s by omega, hB]
        exact h0
      · exact absurd hj (by omega)
    | succ d ih =>
      intro j hj
      have bj := bb j
      have kj := kb j
      have inn : ∀ (e k : Nat), k + e = c → wp Γ 0 0 (QQ Γ post) 63 [some (.ref 34), some (.int (iI (bmF (fun t => (kpR (tR J) (bR J) pm s t c : Int)) j).1)), some (.int (iI (bmF (fun t => (kpR (tR J) (bR J) pm s t c : Int)) j).2)), some (.int (iI j)), some (.int (iI (kpR (tR J) (bR J) pm s j k))), some (.int (iI k))] [] n K (zw J) L R := by
        intro e
        induction e with
        | zero =>
          intro k hk
          have ek : k = c := by omega
          subst ek
          have nx := ih (j + 1) (by omega)
          simp only [bmF] at nx
          refine w_iload (pc2 := 65) C dX11_change_63 rfl rfl ?_
          refine w_aload_n (pc2 := 66) C dX11_change_65 rfl rfl ?_
          refine w_getR (pc2 := 69) C dX11_change_66 fl_X11_7 (by first | exact hy.k _ | assumption) (by first | exact hy.r _ _ | assumption) rfl ?_
          refine w_iconst (pc2 := 70) (v := iI 0) C dX11_change_69 (by decide) rfl ?_
          -- at 70: .iaload
          refine z_iald (pc2 := 71) (j := 0) C dX11_change_70 (by first | exact hy.k _ | assumption) (by omega) (by omega) (by decide) rfl ?_
          rw [hm.1]
          refine z_icmp_ge (pc2 := 74) (tgt := 116) C dX11_change_71 (by decide) rfl (by omega) (by omega) (fun g1 => ?_) (fun g1 => ?_)
          · skip
            refine w_iload (pc2 := 118) C dX11_change_116 rfl rfl ?_
            refine w_iload_n (pc2 := 119) C dX11_change_118 rfl rfl ?_
            -- at 119: .if_icmp .gt 6
            refine z_icmp_gt (pc2 := 122) (tgt := 125) C dX11_change_119 (by decide) rfl (by omega) (by omega) (fun g2 => ?_) (fun g2 => ?_)
            · rw [if_pos g2] at nx
              refine w_iload (pc2 := 127) C dX11_change_125 rfl rfl ?_
              refine w_istore_n (pc2 := 128) C dX11_change_127 rfl (by decide) rfl rfl ?_
              try dsimp only [List.set]
              refine w_iload_n (pc2 := 129) C dX11_change_128 rfl rfl ?_
              refine w_istore_n (pc2 := 130) C dX11_change_129 rfl (by decide) rfl rfl ?_
              try dsimp only [List.set]
              refine w_iinc (pc2 := 133) C dX11_change_130 rfl (iI_add _ _) rfl (by decide) rfl rfl ?_
              try dsimp only [List.set]
              refine w_goto (tgt := 45) C dX11_change_133 (by decide) ?_
              -- at 45: .iload_n 3
              exact w_drop nx ⟨rfl, rfl, rfl, rfl, trivial⟩
            · rw [if_neg g2] at nx
              refine w_goto (tgt := 130) C dX11_change_122 (by decide) ?_
              refine w_iinc (pc2 := 133) C dX11_change_130 rfl (iI_add _ _) rfl (by decide) rfl rfl ?_
              try dsimp only [List.set]
              refine w_goto (tgt := 45) C dX11_change_133 (by decide) ?_
              -- at 45: .iload_n 3
              exact w_drop nx ⟨rfl, rfl, rfl, rfl, trivial⟩
          · exact absurd g1 (by omega)
        | succ e ihe =>
          intro k hk
          have gk := hm.2.2 k (by omega)
          have nx := ihe (k + 1) (by omega)
          have hst := s_X11_stepOf (n := n) (L := L) (a := j) hy hm (show k < c by omega) p1 ⟨p2, p3⟩ (by omega)
          rw [stp_eq p2] at hst
          have hsl := stp_lt (tk := tR J) (k := k) (t := j) p2
          have hkp : kpR (tR J) (bR J) pm s j (k + 1) = kpR (tR J) (bR J) pm s j k + (if (pm (stp (tR J) s k j)).testBit (J 35 (102 + k)).toNat = true then 1 else 0) := rfl
          generalize hz : stp (tR J) s k j = z at *
          have hpz := p4 z hsl
          refine w_iload (pc2 := 65) C dX11_change_63 rfl rfl ?_
          refine w_aload_n (pc2 := 66) C dX11_change_65 rfl rfl ?_
          refine w_getR (pc2 := 69) C dX11_change_66 fl_X11_7 (by first | exact hy.k _ | assumption) (by first | exact hy.r _ _ | assumption) rfl ?_
          refine w_iconst (pc2 := 70) (v := iI 0) C dX11_change_69 (by decide) rfl ?_
          -- at 70: .iaload
          refine z_iald (pc2 := 71) (j := 0) C dX11_change_70 (by first | exact hy.k _ | assumption) (by omega) (by omega) (by decide) rfl ?_
          rw [hm.1]
          refine z_icmp_ge (pc2 := 74) (tgt := 116) C dX11_change_71 (by decide) rfl (by omega) (by omega) (fun g1 => ?_) (fun g1 => ?_)
          · exact absurd g1 (by omega)
          · skip
            refine w_aload_n (pc2 := 75) C dX11_change_74 rfl rfl ?_
            refine w_getR (pc2 := 78) C dX11_change_75 fl_X11_7 (by first | exact hy.k _ | assumption) (by first | exact hy.r _ _ | assumption) rfl ?_
            refine w_sipush (pc2 := 81) (v := iI 233) C dX11_change_78 (by decide) rfl ?_
            refine w_aload_n (pc2 := 82) C dX11_change_81 rfl rfl ?_
            refine w_iload (pc2 := 84) C dX11_change_82 rfl rfl ?_
            refine w_iload_n (pc2 := 85) C dX11_change_84 rfl rfl ?_
            -- at 85: .invokevirtual 152
            refine w_cVi (pc2 := 88)  C dX11_change_85 mb_X11_152 mv_X11_stepOf (hst) (by first | exact hy.k _ | assumption) rfl (by decide) rfl rfl (Nat.le_of_ble_eq_true rfl) ⟨by decide, by decide⟩ ⟨rfl, rfl⟩ ⟨by decide, by decide⟩ rfl ?_
            refine z_iadd (pc2 := 89) C dX11_change_88 rfl ?_
            -- at 89: .iaload
            refine z_iald (pc2 := 90) (j := 233 + z) C dX11_change_89 (by first | exact hy.k _ | assumption) (by omega) (by omega) (by decide) rfl ?_
            rw [hpz.1]
            refine w_aload_n (pc2 := 91) C dX11_change_90 rfl rfl ?_
            refine w_getR (pc2 := 94) C dX11_change_91 fl_X11_7 (by first | exact hy.k _ | assumption) (by first | exact hy.r _ _ | assumption) rfl ?_
            refine w_bipush (pc2 := 96) (v := iI 102) C dX11_change_94 (by decide) rfl ?_
            refine w_iload (pc2 := 98) C dX11_change_96 rfl rfl ?_
            refine z_iadd (pc2 := 99) C dX11_change_98 rfl ?_
            -- at 99: .iaload
            refine z_iald (pc2 := 100) (j := 102 + k) C dX11_change_99 (by first | exact hy.k _ | assumption) (by omega) (by omega) (by decide) rfl ?_
            rw [show iI (J 35 (102 + k)) = iI ((J 35 (102 + k)).toNat : Nat) by congr 1; omega]
            refine w_ishr (pc2 := 101) C dX11_change_100 rfl ?_
            refine w_iconst (pc2 := 102) (v := iI 1) C dX11_change_101 (by decide) rfl ?_
            refine w_iand (pc2 := 103) C dX11_change_102 rfl ?_
            -- at 103: .iconst 1
            rw [bit01 hpz.2 (by omega)]
            refine w_iconst (pc2 := 104) (v := iI 1) C dX11_change_103 (by decide) rfl ?_
            -- at 104: .if_icmp .ne 6
            refine z_icmp_ne (pc2 := 107) (tgt := 110) C dX11_change_104 (by decide) rfl (by split <;> omega) (by omega) (fun g2 => ?_) (fun g2 => ?_)
            · have hb0 : ¬ (pm z).testBit (J 35 (102 + k)).toNat = true := fun q => by rw [if_pos q] at g2; exact absurd rfl g2
              rw [if_neg hb0] at hkp
              rw [hkp] at nx
              refine w_iinc (pc2 := 113) C dX11_change_110 rfl (iI_add _ _) rfl (by decide) rfl rfl ?_
              try dsimp only [List.set]
              refine w_goto (tgt := 63) C dX11_change_113 (by decide) ?_
              -- at 63: .iload 5
              exact nx
            · have hb0 : (pm z).testBit (J 35 (102 + k)).toNat = true := by
                rcases Decidable.em ((pm z).testBit (J 35 (102 + k)).toNat = true) with q | q
                · exact q
                · rw [if_neg q] at g2; exact absurd g2 (by decide)
              rw [if_pos hb0] at hkp
              rw [hkp] at nx
              refine w_iinc (pc2 := 110) C dX11_change_107 rfl (iI_add _ _) rfl (by decide) rfl rfl ?_
              try dsimp only [List.set]
              refine w_iinc (pc2 := 113) C dX11_change_110 rfl (iI_add _ _) rfl (by decide) rfl rfl ?_
              try dsimp only [List.set]
              refine w_goto (tgt := 63) C dX11_change_113 (by decide) ?_
              -- at 63: .iload 5
              exact nx
      refine w_iload_n (pc2 := 46) C dX11_change_45 rfl rfl ?_
      refine w_aload_n (pc2 := 47) C dX11_change_46 rfl rfl ?_
      refine w_getR (pc2 := 50) C dX11_change_47 fl_X11_7 (by first | exact hy.k _ | assumption) (by first | exact hy.r _ _ | assumption) rfl ?_
      refine w_sipush (pc2 := 53) (v := iI 229) C dX11_change_50 (by decide) rfl ?_
      -- at 53: .iaload
      refine z_iald (pc2 := 54) (j := 229) C dX11_change_53 (by first | exact hy.k _ | assumption) (by omega) (by omega) (by decide) rfl ?_
      rw [p1]
      refine z_icmp_ge (pc2 := 57) (tgt := 136) C dX11_change_54 (by decide) rfl (by omega) (by omega) (fun g1 => ?_) (fun g1 => ?_)
      · exact absurd g1 (by omega)
      · skip
        refine w_iconst (pc2 := 58) (v := iI 0) C dX11_change_57 (by decide) rfl ?_
        refine w_istore (pc2 := 60) C dX11_change_58 rfl (by decide) rfl rfl ?_
        try dsimp only [List.set]
        refine w_iconst (pc2 := 61) (v := iI 0) C dX11_change_60 (by decide) rfl ?_
        refine w_istore (pc2 := 63) C dX11_change_61 rfl (by decide) rfl rfl ?_
        try dsimp only [List.set]
        -- at 63: .iload 5
        exact inn c 0 (by omega)
  have key1 : ∀ (d j : Nat), j + d = c → wp Γ 0 0 (QQ Γ post) 2 [some (.ref 34), some (.int (iI j)), none, none, none, none] [] n K (zw J) L R := by
    intro d
    induction d with
    | zero =>
      intro j hj
      refine w_iload_n (pc2 := 3) C dX11_change_2 rfl rfl ?_
      refine w_aload_n (pc2 := 4) C dX11_change_3 rfl rfl ?_
      refine w_getR (pc2 := 7) C dX11_change_4 fl_X11_7 (by first | exact hy.k _ | assumption) (by first | exact hy.r _ _ | assumption) rfl ?_
      refine w_iconst (pc2 := 8) (v := iI 0) C dX11_change_7 (by decide) rfl ?_
      -- at 8: .iaload
      refine z_iald (pc2 := 9) (j := 0) C dX11_change_8 (by first | exact hy.k _ | assumption) (by omega) (by omega) (by decide) rfl ?_
      rw [hm.1]
      refine z_icmp_ge (pc2 := 12) (tgt := 39) C dX11_change_9 (by decide) rfl (by omega) (by omega) (fun g1 => ?_) (fun g1 => ?_)
      · skip
        refine w_iconst (pc2 := 40) (v := iI 0) C dX11_change_39 (by decide) rfl ?_
        refine w_istore_n (pc2 := 41) C dX11_change_40 rfl (by decide) rfl rfl ?_
        try dsimp only [List.set]
        refine w_iconst (pc2 := 42) (v := iI (-1)) C dX11_change_41 (by decide) rfl ?_
        refine w_istore_n (pc2 := 43) C dX11_change_42 rfl (by decide) rfl rfl ?_
        try dsimp only [List.set]
        refine w_iconst (pc2 := 44) (v := iI 0) C dX11_change_43 (by decide) rfl ?_
        refine w_istore_n (pc2 := 45) C dX11_change_44 rfl (by decide) rfl rfl ?_
        try dsimp only [List.set]
        -- at 45: .iload_n 3
        exact key2 s 0 (by omega)
      · exact absurd g1 (by omega)
    | succ d ih =>
      intro j hj
      have g := hm.2.2 j (by omega)
      have hb1 : J 35 (2 + j) < s := hb j (by omega)
      refine w_iload_n (pc2 := 3) C dX11_change_2 rfl rfl ?_
      refine w_aload_n (pc2 := 4) C dX11_change_3 rfl rfl ?_
      refine w_getR (pc2 := 7) C dX11_change_4 fl_X11_7 (by first | exact hy.k _ | assumption) (by first | exact hy.r _ _ | assumption) rfl ?_
      refine w_iconst (pc2 := 8) (v := iI 0) C dX11_change_7 (by decide) rfl ?_
      -- at 8: .iaload
      refine z_iald (pc2 := 9) (j := 0) C dX11_change_8 (by first | exact hy.k _ | assumption) (by omega) (by omega) (by decide) rfl ?_
      rw [hm.1]
      refine z_icmp_ge (pc2 := 12) (tgt := 39) C dX11_change_9 (by decide) rfl (by omega) (by omega) (fun g1 => ?_) (fun g1 => ?_)
      · exact absurd g1 (by omega)
      · skip
        refine w_aload_n (pc2 := 13) C dX11_change_12 rfl rfl ?_
        refine w_getR (pc2 := 16) C dX11_change_13 fl_X11_7 (by first | exact hy.k _ | assumption) (by first | exact hy.r _ _ | assumption) rfl ?_
        refine w_iconst (pc2 := 17) (v := iI 2) C dX11_change_16 (by decide) rfl ?_
        refine w_iload_n (pc2 := 18) C dX11_change_17 rfl rfl ?_
        refine z_iadd (pc2 := 19) C dX11_change_18 rfl ?_
        -- at 19: .iaload
        refine z_iald (pc2 := 20) (j := 2 + j) C dX11_change_19 (by first | exact hy.k _ | assumption) (by omega) (by omega) (by decide) rfl ?_
        refine w_aload_n (pc2 := 21) C dX11_change_20 rfl rfl ?_
        refine w_getR (pc2 := 24) C dX11_change_21 fl_X11_7 (by first | exact hy.k _ | assumption) (by first | exact hy.r _ _ | assumption) rfl ?_
        refine w_sipush (pc2 := 27) (v := iI 229) C dX11_change_24 (by decide) rfl ?_
        -- at 27: .iaload
        refine z_iald (pc2 := 28) (j := 229) C dX11_change_27 (by first | exact hy.k _ | assumption) (by omega) (by omega) (by decide) rfl ?_
        rw [p1]
        refine z_icmp_lt (pc2 := 31) (tgt := 33) C dX11_change_28 (by decide) rfl (by omega) (by omega) (fun g2 => ?_) (fun g2 => ?_)
        · skip
          refine w_iinc (pc2 := 36) C dX11_change_33 rfl (iI_add _ _) rfl (by decide) rfl rfl ?_
          try dsimp only [List.set]
          refine w_goto (tgt := 2) C dX11_change_36 (by decide) ?_
          -- at 2: .iload_n 1
          exact ih (j + 1) (by omega)
        · exact absurd hb1 g2
  refine w_iconst (pc2 := 1) (v := iI 0) C dX11_change_0 (by decide) rfl ?_
  refine w_istore_n (pc2 := 2) C dX11_change_1 rfl (by decide) rfl rfl ?_
  try dsimp only [List.set]
  -- at 2: .iload_n 1
  exact key1 c 0 (by omega)
end REF4
