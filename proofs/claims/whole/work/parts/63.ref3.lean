/-! ===== the reference: what it asks of THE SETTING, and of sounds ===== -/
def ndX (tk bl : Nat → Int) (c : Nat) : Nat → Nat → Int
  | 0, _ => -1
  | d + 1, ρ => if opt c (LCx tk bl (ρ : Int)) (RCx tk bl (ρ : Int)) FAR c 0 0 < FAR then ρ else ndX tk bl c d (ρ + 1)
def srF (tk bl : Nat → Int) (k : Nat) (tail : Int) : Nat → Int
  | 0 => tail
  | j + 1 => if k < j ∧ bl j = bl k ∧ tk j - tk k < srF tk bl k tail j then tk j - tk k else srF tk bl k tail j
theorem srF_k {tk bl : Nat → Int} {k : Nat} {tail : Int} : ∀ j, j ≤ k + 1 → srF tk bl k tail j = tail
  | 0, _ => rfl
  | j + 1, h => by
    rw [srF, if_neg (by omega)]
    exact srF_k j (by omega)
theorem srF_bd {tk bl : Nat → Int} {k c : Nat} {tail : Int} (ht : -3000 ≤ tail ∧ tail ≤ 3000) (hk : k < c) (h : ∀ i, i < c → 0 ≤ tk i ∧ tk i ≤ 3000) : ∀ j, j ≤ c → -3000 ≤ srF tk bl k tail j ∧ srF tk bl k tail j ≤ 3000
  | 0, _ => ht
  | j + 1, hj => by
    have := srF_bd (bl := bl) ht hk h j (by omega)
    have h1 := h j (by omega)
    have h2 := h k hk
    simp only [srF]
    split <;> omega
/-- its tails -/
def TaR (J : wJn) : Prop := ∀ i, i < 24 → 1 ≤ J 35 (204 + i) ∧ J 35 (204 + i) ≤ 60
def sndR (J : wJn) (c k : Nat) : Int := srF (tR J) (bR J) k (J 35 (204 + (bR J k).toNat)) c
theorem sndR_bd {J : wJn} {c k : Nat} (hm : MuR J c) (ht : TaR J) (hk : k < c) : -3000 ≤ sndR J c k ∧ sndR J c k ≤ 3000 := by
  have g := hm.2.2 k hk
  have h1 := ht (bR J k).toNat (by have : bR J k = J 35 (102 + k) := rfl; omega)
  exact srF_bd (by omega) hk (fun i hi => by have := hm.2.2 i hi; exact ⟨this.1, this.2.1⟩) c (Nat.le_refl _)
def canR (J : wJn) (a b : Nat) : Bool := decide (¬ (bR J a - bR J b).natAbs = 0 ∧ ¬ qbit (J 35 228) (((bR J a - bR J b).natAbs : Int) % 12) = 0)
def qvR (J : wJn) (c a b : Nat) : Int := if canR J a b = true then max 0 (min (tR J a + sndR J c a) (tR J b + sndR J c b) - tR J b) else 0
def qinR (J : wJn) (c a j : Nat) : Int := sumN (fun s => if a < s then qvR J c a s else 0) j
def qouR (J : wJn) (c j : Nat) : Int := sumN (fun a => qinR J c a c) j
section REF3
variable {n : Nat} {K : wKd} {J : wJn} {L : wLn} {R : wRf}
theorem s_X11_cost (hy : Ly K R) {c : Nat} (hm : MuR J c) (hrp : RPR J) : S_X11_cost [.ref 34] n K (zw J) L R (fun r2 n2 K2 I2 L2 R2 => ∃ J2 : wJn, Det (some (.int (iI (oR J c c 0 0)))) n K (zw J2) L R r2 n2 K2 I2 L2 R2 ∧ StR J J2 c c) := by
  refine Sp_intro [some (.ref 34)] rfl rfl (Nat.le_of_ble_eq_true rfl) rfl ?_
  intro Γ C
  replace C : C_X11_cost Γ := C
  refine w_aload_n (pc2 := 1) C dX11_cost_0 rfl rfl ?_
  -- at 1: .invokevirtual 143
  refine w_gV (pc2 := 4)  C dX11_cost_1 mb_X11_143 mv_X11_sets (s_X11_sets hy hm hrp) (by first | exact hy.k _ | assumption) rfl (by decide) rfl rfl (Nat.le_of_ble_eq_true rfl) ⟨by decide, by decide⟩ ⟨rfl, rfl⟩ ⟨by decide, by decide⟩ rfl ?_
  rintro r2 n2 K2 I2 L2 R2 ⟨J2, hD, hS⟩
  obtain ⟨d1, d2, d3, d4, d5, d6⟩ := hD
  replace d2 := d2.symm
  replace d3 := d3.symm
  replace d5 := d5.symm
  replace d6 := d6.symm
  subst d1
  subst d2
  subst d3
  subst d4
  subst d5
  subst d6
  exact w_iret C dX11_cost_4 (by decide) (by decide) (⟨J2, DetI rfl rfl, hS⟩)
theorem s_X11_need (hy : Ly K R) {c : Nat} (hm : MuR J c) : S_X11_need [.ref 34] n K (zw J) L R (fun r2 n2 K2 I2 L2 R2 => ∃ J2 : wJn, Det (some (.int (iI (ndX (tR J) (bR J) c 24 1)))) n K (zw J2) L R r2 n2 K2 I2 L2 R2 ∧ ∀ a, a ≠ 45 → J2 a = J a) := by
  refine Sp_intro [some (.ref 34), none] rfl rfl (Nat.le_of_ble_eq_true rfl) rfl ?_
  intro Γ C
  replace C : C_X11_need Γ := C
  generalize hpost : (fun (r2 : Option Value) (n2 : Nat) (K2 : wKd) (I2 : wIn) (L2 : wLn) (R2 : wRf) => ∃ J2 : wJn, Det (some (.int (iI (ndX (tR J) (bR J) c 24 1)))) n K (zw J2) L R r2 n2 K2 I2 L2 R2 ∧ ∀ a, a ≠ 45 → J2 a = J a) = post
  generalize hN : ndX (tR J) (bR J) c 24 1 = N at *
  have key : ∀ (d ρ : Nat) (J2 : wJn), ρ + d = 25 → 1 ≤ ρ → (∀ a, a ≠ 45 → J2 a = J a) → N = ndX (tR J) (bR J) c d ρ → wp Γ 0 0 (QQ Γ post) 2 [some (.ref 34), some (.int (iI ρ))] [] n K (zw J2) L R := by
    intro d
    induction d with
    | zero =>
      intro ρ J2 hd h1 a1 a2
      refine w_iload_n (pc2 := 3) C dX11_need_2 rfl rfl ?_
      refine w_bipush (pc2 := 5) (v := iI 24) C dX11_need_3 (by decide) rfl ?_
      -- at 5: .if_icmp .gt 23
      refine z_icmp_gt (pc2 := 8) (tgt := 28) C dX11_need_5 (by decide) rfl (by omega) (by omega) (fun g1 => ?_) (fun g1 => ?_)
      · skip
        refine w_iconst (pc2 := 29) (v := iI (-1)) C dX11_need_28 (by decide) rfl ?_
        -- at 29: .ireturn
        exact w_iret C dX11_need_29 (by decide) (by decide) (by rw [← hpost]; exact ⟨J2, DetI (by rw [a2]; rfl) rfl, a1⟩)
      · exact absurd hd (by omega)
    | succ d ih =>
      intro ρ J2 hd h1 a1 a2
      have e35 : J2 35 = J 35 := a1 35 (by decide)
      have eT : tR J2 = tR J := by unfold tR; rw [e35]
      have eB : bR J2 = bR J := by unfold bR; rw [e35]
      have hm2 := hm.row e35
      have hof := opt_far (okLx (ρ : Int) hm) (okRx (ρ : Int) hm) (show 0 ≤ FAR by unfold FAR; omega) c 0 0 (Nat.le_refl _) (by omega) (by omega)
      have hFAR : FAR = 100000000 := rfl
      rw [ndX] at a2
      refine w_iload_n (pc2 := 3) C dX11_need_2 rfl rfl ?_
      refine w_bipush (pc2 := 5) (v := iI 24) C dX11_need_3 (by decide) rfl ?_
      -- at 5: .if_icmp .gt 23
      refine z_icmp_gt (pc2 := 8) (tgt := 28) C dX11_need_5 (by decide) rfl (by omega) (by omega) (fun g1 => ?_) (fun g1 => ?_)
      · exact absurd g1 (by omega)
      · skip
        refine w_aload_n (pc2 := 9) C dX11_need_8 rfl rfl ?_
        refine w_iload_n (pc2 := 10) C dX11_need_9 rfl rfl ?_
        refine w_ldc (pc2 := 12) C dX11_need_10 kc_X11_120 rfl ?_
        -- at 12: .invokevirtual 140
        show wp Γ 0 0 _ _ _ [.int (iI FAR), .int (iI ρ), .ref 34] _ _ _ _ _
        refine w_gV (pc2 := 15)  C dX11_need_12 mb_X11_140 mv_X11_weighs (s_X11_weighs hy hm2 (ρ := (ρ : Int)) (π := FAR) (by omega) (by omega)) (by first | exact hy.k _ | assumption) rfl (by decide) rfl rfl (Nat.le_of_ble_eq_true rfl) ⟨by decide, by decide⟩ ⟨rfl, rfl⟩ ⟨by decide, by decide⟩ rfl ?_
        rintro r2 n2 K2 I2 L2 R2 ⟨J3, hD, b1, b2⟩
        obtain ⟨d1, d2, d3, d4, d5, d6⟩ := hD
        replace d2 := d2.symm
        replace d3 := d3.symm
        replace d5 := d5.symm
        replace d6 := d6.symm
        subst d1
        subst d2
        subst d3
        subst d4
        subst d5
        subst d6
        rw [eT, eB]
        refine w_ldc (pc2 := 17) C dX11_need_15 kc_X11_120 rfl ?_
        -- at 17: .if_icmp .ge 5
        show wp Γ 0 0 _ _ _ [.int (iI FAR), .int (iI (opt c (LCx (tR J) (bR J) ρ) (RCx (tR J) (bR J) ρ) FAR c 0 0))] _ _ _ _ _
        refine z_icmp_ge (pc2 := 20) (tgt := 22) C dX11_need_17 (by decide) rfl (by omega) (by omega) (fun g2 => ?_) (fun g2 => ?_)
        · rw [if_neg (by omega)] at a2
          refine w_iinc (pc2 := 25) C dX11_need_22 rfl (iI_add _ _) rfl (by decide) rfl rfl ?_
          try dsimp only [List.set]
          refine w_goto (tgt := 2) C dX11_need_25 (by decide) ?_
          -- at 2: .iload_n 1
          exact ih (ρ + 1) J3 (by omega) (by omega) (fun a ha => by rw [b1 a ha]; exact a1 a ha) a2
        · rw [if_pos (by omega)] at a2
          refine w_iload_n (pc2 := 21) C dX11_need_20 rfl rfl ?_
          -- at 21: .ireturn
          exact w_iret C dX11_need_21 (by decide) (by decide) (by rw [← hpost]; exact ⟨J3, DetI (by rw [a2]) rfl, fun a ha => by rw [b1 a ha]; exact a1 a ha⟩)
  refine w_iconst (pc2 := 1) (v := iI 1) C dX11_need_0 (by decide) rfl ?_
  refine w_istore_n (pc2 := 2) C dX11_need_1 rfl (by decide) rfl rfl ?_
  try dsimp only [List.set]
  -- at 2: .iload_n 1
  exact key 24 1 J (by omega) (by omega) (fun _ _ => rfl) hN.symm
theorem s_X11_by (hy : Ly K R) {c : Nat} {a : Int} (ha : R32 a) (hm : MuR J c) (hrp : RPR J) : S_X11_by [.ref 34, .int (iI a)] n K (zw J) L R (fun r2 n2 K2 I2 L2 R2 => (¬ (0 ≤ a ∧ a < c) ∧ Det (some (.int (iI (-1)))) n K (zw J) L R r2 n2 K2 I2 L2 R2) ∨ (0 ≤ a ∧ a < c ∧ ∃ J2 : wJn, Det (some (.int (iI (wR J c a.toNat)))) n K (zw J2) L R r2 n2 K2 I2 L2 R2 ∧ StR J J2 c c)) := by
  have hc2 := hm.2.1
  refine Sp_intro [some (.ref 34), some (.int (iI a))] rfl rfl (Nat.le_of_ble_eq_true rfl) rfl ?_
  intro Γ C
  replace C : C_X11_by Γ := C
  refine w_iload_n (pc2 := 1) C dX11_by_0 rfl rfl ?_
  -- at 1: .ifCond .lt 13
  refine z_if_lt (pc2 := 4) (tgt := 14) C dX11_by_1 (by decide) rfl (by omega) (fun h1 => ?_) (fun h1 => ?_)
  · skip
    refine w_iconst (pc2 := 15) (v := iI (-1)) C dX11_by_14 (by decide) rfl ?_
    -- at 15: .ireturn
    exact w_iret C dX11_by_15 (by decide) (by decide) (Or.inl ⟨by omega, DetI rfl rfl⟩)
  · skip
    refine w_iload_n (pc2 := 5) C dX11_by_4 rfl rfl ?_
    refine w_aload_n (pc2 := 6) C dX11_by_5 rfl rfl ?_
    refine w_getR (pc2 := 9) C dX11_by_6 fl_X11_7 (by first | exact hy.k _ | assumption) (by first | exact hy.r _ _ | assumption) rfl ?_
    refine w_iconst (pc2 := 10) (v := iI 0) C dX11_by_9 (by decide) rfl ?_
    -- at 10: .iaload
    refine z_iald (pc2 := 11) (j := 0) C dX11_by_10 (by first | exact hy.k _ | assumption) (by omega) (by omega) (by decide) rfl ?_
    rw [hm.1]
    refine z_icmp_lt (pc2 := 14) (tgt := 16) C dX11_by_11 (by decide) rfl (by omega) (by omega) (fun h2 => ?_) (fun h2 => ?_)
    · skip
      refine w_aload_n (pc2 := 17) C dX11_by_16 rfl rfl ?_
      -- at 17: .invokevirtual 143
      refine w_gV (pc2 := 20)  C dX11_by_17 mb_X11_143 mv_X11_sets (s_X11_sets hy hm hrp) (by first | exact hy.k _ | assumption) rfl (by decide) rfl rfl (Nat.le_of_ble_eq_true rfl) ⟨by decide, by decide⟩ ⟨rfl, rfl⟩ ⟨by decide, by decide⟩ rfl ?_
      rintro r2 n2 K2 I2 L2 R2 ⟨J2, hD, hS⟩
      obtain ⟨d1, d2, d3, d4, d5, d6⟩ := hD
      replace d2 := d2.symm
      replace d3 := d3.symm
      replace d5 := d5.symm
      replace d6 := d6.symm
      subst d1
      subst d2
      subst d3
      subst d4
      subst d5
      subst d6
      refine w_pop (pc2 := 21) C dX11_by_20 rfl rfl ?_
      refine w_aload_n (pc2 := 22) C dX11_by_21 rfl rfl ?_
      refine w_getR (pc2 := 25) C dX11_by_22 fl_X11_46 (by first | exact hy.k _ | assumption) (by first | exact hy.r _ _ | assumption) rfl ?_
      refine w_iload_n (pc2 := 26) C dX11_by_25 rfl rfl ?_
      -- at 26: .iaload
      refine z_iald (pc2 := 27) (j := a.toNat) C dX11_by_26 (by first | exact hy.k _ | assumption) (by omega) (by omega) (by decide) rfl ?_
      rw [hS.2.2.1 a.toNat (by omega)]
      exact w_iret C dX11_by_27 (by decide) (by decide) (Or.inr ⟨by omega, h2, J2, DetI rfl rfl, hS⟩)
    · skip
      refine w_iconst (pc2 := 15) (v := iI (-1)) C dX11_by_14 (by decide) rfl ?_
      -- at 15: .ireturn
      exact w_iret C dX11_by_15 (by decide) (by decide) (Or.inl ⟨by omega, DetI rfl rfl⟩)
theorem s_X11_way (hy : Ly K R) {c : Nat} {a : Int} (ha : R32 a) (hm : MuR J c) (hrp : RPR J) : S_X11_way [.ref 34, .int (iI a)] n K (zw J) L R (fun r2 n2 K2 I2 L2 R2 => (¬ (a = 0 ∨ a = 1) ∧ Det (some (.int (iI (-1)))) n K (zw J) L R r2 n2 K2 I2 L2 R2) ∨ ((a = 0 ∨ a = 1) ∧ ∃ J2 : wJn, Det (some (.int (iI (gR2 J c a.toNat c)))) n K (zw J2) L R r2 n2 K2 I2 L2 R2 ∧ StR J J2 c c)) := by
  refine Sp_intro [some (.ref 34), some (.int (iI a))] rfl rfl (Nat.le_of_ble_eq_true rfl) rfl ?_
  intro Γ C
  replace C : C_X11_way Γ := C
  have yes : (a = 0 ∨ a = 1) → wp Γ 0 0 (QQ Γ (fun r2 n2 K2 I2 L2 R2 => (¬ (a = 0 ∨ a = 1) ∧ Det (some (.int (iI (-1)))) n K (zw J) L R r2 n2 K2 I2 L2 R2) ∨ ((a = 0 ∨ a = 1) ∧ ∃ J2 : wJn, Det (some (.int (iI (gR2 J c a.toNat c)))) n K (zw J2) L R r2 n2 K2 I2 L2 R2 ∧ StR J J2 c c))) 11 [some (.ref 34), some (.int (iI a))] [] n K (zw J) L R := by
    intro h
    refine w_aload_n (pc2 := 12) C dX11_way_11 rfl rfl ?_
    -- at 12: .invokevirtual 143
    refine w_gV (pc2 := 15)  C dX11_way_12 mb_X11_143 mv_X11_sets (s_X11_sets hy hm hrp) (by first | exact hy.k _ | assumption) rfl (by decide) rfl rfl (Nat.le_of_ble_eq_true rfl) ⟨by decide, by decide⟩ ⟨rfl, rfl⟩ ⟨by decide, by decide⟩ rfl ?_
    rintro r2 n2 K2 I2 L2 R2 ⟨J2, hD, hS⟩
    obtain ⟨d1, d2, d3, d4, d5, d6⟩ := hD
    replace d2 := d2.symm
    replace d3 := d3.symm
    replace d5 := d5.symm
    replace d6 := d6.symm
    subst d1
    subst d2
    subst d3
    subst d4
    subst d5
    subst d6
    refine w_pop (pc2 := 16) C dX11_way_15 rfl rfl ?_
    refine w_aload_n (pc2 := 17) C dX11_way_16 rfl rfl ?_
    refine w_getR (pc2 := 20) C dX11_way_17 fl_X11_49 (by first | exact hy.k _ | assumption) (by first | exact hy.r _ _ | assumption) rfl ?_
    refine w_iload_n (pc2 := 21) C dX11_way_20 rfl rfl ?_
    -- at 21: .iaload
    refine z_iald (pc2 := 22) (j := a.toNat) C dX11_way_21 (by first | exact hy.k _ | assumption) (by omega) (by omega) (by decide) rfl ?_
    exact w_iret C dX11_way_22 (by decide) (by decide) (by
      refine Or.inr ⟨h, J2, DetI ?_ rfl, hS⟩
      rcases h with e | e
      · subst e; rw [show J2 47 (0 : Int).toNat = gR2 J c 0 c from hS.2.2.2.1]; rfl
      · subst e; rw [show J2 47 (1 : Int).toNat = gR2 J c 1 c from hS.2.2.2.2]; rfl)
  refine w_iload_n (pc2 := 1) C dX11_way_0 rfl rfl ?_
  -- at 1: .ifCond .eq 10
  refine z_if_eq (pc2 := 4) (tgt := 11) C dX11_way_1 (by decide) rfl (by omega) (fun h1 => ?_) (fun h1 => ?_)
  · exact yes (Or.inl h1)
  · skip
    refine w_iload_n (pc2 := 5) C dX11_way_4 rfl rfl ?_
    refine w_iconst (pc2 := 6) (v := iI 1) C dX11_way_5 (by decide) rfl ?_
    -- at 6: .if_icmp .eq 5
    refine z_icmp_eq (pc2 := 9) (tgt := 11) C dX11_way_6 (by decide) rfl (by omega) (by omega) (fun h2 => ?_) (fun h2 => ?_)
    · exact yes (Or.inr h2)
    · skip
      refine w_iconst (pc2 := 10) (v := iI (-1)) C dX11_way_9 (by decide) rfl ?_
      -- at 10: .ireturn
      exact w_iret C dX11_way_10 (by decide) (by decide) (Or.inl ⟨by omega, DetI rfl rfl⟩)
theorem s_X11_count (hy : Ly K R) {c : Nat} {a : Int} (ha : R32 a) (hm : MuR J c) (hrp : RPR J) : S_X11_count [.ref 34, .int (iI a)] n K (zw J) L R (fun r2 n2 K2 I2 L2 R2 => (¬ a = 2 ∧ Det (some (.int (iI (if a = 0 then (c : Int) else if a = 1 then J 35 1 else -1)))) n K (zw J) L R r2 n2 K2 I2 L2 R2) ∨ (a = 2 ∧ ∃ J2 : wJn, Det (some (.int (iI (outF c (LR J) (RR J) (J 35 203) c)))) n K (zw J2) L R r2 n2 K2 I2 L2 R2 ∧ StR J J2 c c)) := by
  have hc2 := hm.2.1
  refine Sp_intro [some (.ref 34), some (.int (iI a)), none, none] rfl rfl (Nat.le_of_ble_eq_true rfl) rfl ?_
  intro Γ C
  replace C : C_X11_count Γ := C
  generalize hpost : (fun (r2 : Option Value) (n2 : Nat) (K2 : wKd) (I2 : wIn) (L2 : wLn) (R2 : wRf) => (¬ a = 2 ∧ Det (some (.int (iI (if a = 0 then (c : Int) else if a = 1 then J 35 1 else -1)))) n K (zw J) L R r2 n2 K2 I2 L2 R2) ∨ (a = 2 ∧ ∃ J2 : wJn, Det (some (.int (iI (outF c (LR J) (RR J) (J 35 203) c)))) n K (zw J2) L R r2 n2 K2 I2 L2 R2 ∧ StR J J2 c c)) = post
  have key : a = 2 → ∀ (J2 : wJn), StR J J2 c c → ∀ (d j : Nat), j + d = c → wp Γ 0 0 (QQ Γ post) 51 [some (.ref 34), some (.int (iI a)), some (.int (iI (outF c (LR J) (RR J) (J 35 203) j))), some (.int (iI j))] [] n K (zw J2) L R := by
    intro h2 J2 hS d
    have e35 : J2 35 = J 35 := hS.1 35 (by decide) (by decide) (by decide)
    have e0 : J2 35 0 = c := by rw [e35]; exact hm.1
    induction d with
    | zero =>
      intro j hj
      refine w_iload_n (pc2 := 52) C dX11_count_51 rfl rfl ?_
      refine w_aload_n (pc2 := 53) C dX11_count_52 rfl rfl ?_
      refine w_getR (pc2 := 56) C dX11_count_53 fl_X11_7 (by first | exact hy.k _ | assumption) (by first | exact hy.r _ _ | assumption) rfl ?_
      refine w_iconst (pc2 := 57) (v := iI 0) C dX11_count_56 (by decide) rfl ?_
      -- at 57: .iaload
      refine z_iald (pc2 := 58) (j := 0) C dX11_count_57 (by first | exact hy.k _ | assumption) (by omega) (by omega) (by decide) rfl ?_
      rw [e0]
      refine z_icmp_ge (pc2 := 61) (tgt := 80) C dX11_count_58 (by decide) rfl (by omega) (by omega) (fun g1 => ?_) (fun g1 => ?_)
      · skip
        refine w_iload_n (pc2 := 81) C dX11_count_80 rfl rfl ?_
        -- at 81: .ireturn
        exact w_iret C dX11_count_81 (by decide) (by decide) (by rw [← hpost]; exact Or.inr ⟨h2, J2, DetI (by rw [show j = c by omega]) rfl, hS⟩)
      · exact absurd hj (by omega)
    | succ d ih =>
      intro j hj
      have hst : outF c (LR J) (RR J) (J 35 203) (j + 1) = outF c (LR J) (RR J) (J 35 203) j + (if decide (wR J c j = 2) = true then 1 else 0) := rfl
      have nx := ih (j + 1) (by omega)
      have hwh : wR J c j ≤ 2 := by
        show chs c (LR J) (RR J) (J 35 203) (c - j) (pR J c j).1 (pR J c j).2 ≤ 2
        have e : c - j = (c - (j + 1)) + 1 := by omega
        rw [e, chs]
        split
        · omega
        · split <;> omega
      refine w_iload_n (pc2 := 52) C dX11_count_51 rfl rfl ?_
      refine w_aload_n (pc2 := 53) C dX11_count_52 rfl rfl ?_
      refine w_getR (pc2 := 56) C dX11_count_53 fl_X11_7 (by first | exact hy.k _ | assumption) (by first | exact hy.r _ _ | assumption) rfl ?_
      refine w_iconst (pc2 := 57) (v := iI 0) C dX11_count_56 (by decide) rfl ?_
      -- at 57: .iaload
      refine z_iald (pc2 := 58) (j := 0) C dX11_count_57 (by first | exact hy.k _ | assumption) (by omega) (by omega) (by decide) rfl ?_
      rw [e0]
      refine z_icmp_ge (pc2 := 61) (tgt := 80) C dX11_count_58 (by decide) rfl (by omega) (by omega) (fun g1 => ?_) (fun g1 => ?_)
      · exact absurd g1 (by omega)
      · skip
        refine w_aload_n (pc2 := 62) C dX11_count_61 rfl rfl ?_
        refine w_getR (pc2 := 65) C dX11_count_62 fl_X11_46 (by first | exact hy.k _ | assumption) (by first | exact hy.r _ _ | assumption) rfl ?_
        refine w_iload_n (pc2 := 66) C dX11_count_65 rfl rfl ?_
        -- at 66: .iaload
        refine z_iald (pc2 := 67) (j := j) C dX11_count_66 (by first | exact hy.k _ | assumption) (by omega) (by omega) (by decide) rfl ?_
        rw [hS.2.2.1 j (by omega)]
        refine w_iconst (pc2 := 68) (v := iI 2) C dX11_count_67 (by decide) rfl ?_
        -- at 68: .if_icmp .ne 6
        refine z_icmp_ne (pc2 := 71) (tgt := 74) C dX11_count_68 (by decide) rfl (by omega) (by omega) (fun g2 => ?_) (fun g2 => ?_)
        · have : ¬ wR J c j = 2 := by omega
          simp only [this, decide_false] at hst
          rw [hst] at nx
          refine w_iinc (pc2 := 77) C dX11_count_74 rfl (iI_add _ _) rfl (by decide) rfl rfl ?_
          try dsimp only [List.set]
          refine w_goto (tgt := 51) C dX11_count_77 (by decide) ?_
          -- at 51: .iload_n 3
          exact nx
        · have : wR J c j = 2 := by omega
          simp only [this, decide_true, if_true] at hst
          rw [hst] at nx
          refine w_iinc (pc2 := 74) C dX11_count_71 rfl (iI_add _ _) rfl (by decide) rfl rfl ?_
          try dsimp only [List.set]
          refine w_iinc (pc2 := 77) C dX11_count_74 rfl (iI_add _ _) rfl (by decide) rfl rfl ?_
          try dsimp only [List.set]
          refine w_goto (tgt := 51) C dX11_count_77 (by decide) ?_
          -- at 51: .iload_n 3
          exact nx
  refine w_iload_n (pc2 := 1) C dX11_count_0 rfl rfl ?_
  -- at 1: .tableswitch 81 0 2 #[27, 34, 41]
  refine z_tab3 (t0 := 28) (t1 := 35) (t2 := 42) (td := 82) C dX11_count_1 (by decide) (by decide) (by decide) (by decide) (by omega) (fun h1 => ?_) (fun h1 => ?_) (fun h1 => ?_) (fun h1 => ?_)
  · skip
    refine w_aload_n (pc2 := 29) C dX11_count_28 rfl rfl ?_
    refine w_getR (pc2 := 32) C dX11_count_29 fl_X11_7 (by first | exact hy.k _ | assumption) (by first | exact hy.r _ _ | assumption) rfl ?_
    refine w_iconst (pc2 := 33) (v := iI 0) C dX11_count_32 (by decide) rfl ?_
    -- at 33: .iaload
    refine z_iald (pc2 := 34) (j := 0) C dX11_count_33 (by first | exact hy.k _ | assumption) (by omega) (by omega) (by decide) rfl ?_
    exact w_iret C dX11_count_34 (by decide) (by decide) (by rw [← hpost]; exact Or.inl ⟨by omega, DetI (by rw [if_pos h1, hm.1]) rfl⟩)
  · skip
    refine w_aload_n (pc2 := 36) C dX11_count_35 rfl rfl ?_
    refine w_getR (pc2 := 39) C dX11_count_36 fl_X11_7 (by first | exact hy.k _ | assumption) (by first | exact hy.r _ _ | assumption) rfl ?_
    refine w_iconst (pc2 := 40) (v := iI 1) C dX11_count_39 (by decide) rfl ?_
    -- at 40: .iaload
    refine z_iald (pc2 := 41) (j := 1) C dX11_count_40 (by first | exact hy.k _ | assumption) (by omega) (by omega) (by decide) rfl ?_
    exact w_iret C dX11_count_41 (by decide) (by decide) (by rw [← hpost]; exact Or.inl ⟨by omega, DetI (by rw [if_neg (by omega), if_pos h1]) rfl⟩)
  · skip
    refine w_aload_n (pc2 := 43) C dX11_count_42 rfl rfl ?_
    -- at 43: .invokevirtual 143
    refine w_gV (pc2 := 46)  C dX11_count_43 mb_X11_143 mv_X11_sets (s_X11_sets hy hm hrp) (by first | exact hy.k _ | assumption) rfl (by decide) rfl rfl (Nat.le_of_ble_eq_true rfl) ⟨by decide, by decide⟩ ⟨rfl, rfl⟩ ⟨by decide, by decide⟩ rfl ?_
    rintro r2 n2 K2 I2 L2 R2 ⟨J2, hD, hS⟩
    obtain ⟨d1, d2, d3, d4, d5, d6⟩ := hD
    replace d2 := d2.symm
    replace d3 := d3.symm
    replace d5 := d5.symm
    replace d6 := d6.symm
    subst d1
    subst d2
    subst d3
    subst d4
    subst d5
    subst d6
    refine w_pop (pc2 := 47) C dX11_count_46 rfl rfl ?_
    refine w_iconst (pc2 := 48) (v := iI 0) C dX11_count_47 (by decide) rfl ?_
    refine w_istore_n (pc2 := 49) C dX11_count_48 rfl (by decide) rfl rfl ?_
    try dsimp only [List.set]
    refine w_iconst (pc2 := 50) (v := iI 0) C dX11_count_49 (by decide) rfl ?_
    refine w_istore_n (pc2 := 51) C dX11_count_50 rfl (by decide) rfl rfl ?_
    try dsimp only [List.set]
    -- at 51: .iload_n 3
    exact key h1 J2 hS c 0 (by omega)
  · skip
    refine w_iconst (pc2 := 83) (v := iI (-1)) C dX11_count_82 (by decide) rfl ?_
    -- at 83: .ireturn
    exact w_iret C dX11_count_83 (by decide) (by decide) (by rw [← hpost]; exact Or.inl ⟨by omega, DetI (by rw [if_neg (by omega), if_neg (by omega)]) rfl⟩)
theorem s_X11_sounds (hy : Ly K R) {c : Nat} {a : Int} (hm : MuR J c) (ht : TaR J) (ha : R32 a) : S_X11_sounds [.ref 34, .int (iI a)] n K (zw J) L R (Det (some (.int (iI (if 0 ≤ a ∧ a < c then sndR J c a.toNat else -1)))) n K (zw J) L R) := by
  have hc2 := hm.2.1
  refine Sp_intro [some (.ref 34), some (.int (iI a)), none, none] rfl rfl (Nat.le_of_ble_eq_true rfl) rfl ?_
  intro Γ C
  replace C : C_X11_sounds Γ := C
  refine w_iload_n (pc2 := 1) C dX11_sounds_0 rfl rfl ?_
  -- at 1: .ifCond .lt 13
  refine z_if_lt (pc2 := 4) (tgt := 14) C dX11_sounds_1 (by decide) rfl (by omega) (fun h1 => ?_) (fun h1 => ?_)
  · skip
    refine w_iconst (pc2 := 15) (v := iI (-1)) C dX11_sounds_14 (by decide) rfl ?_
    -- at 15: .ireturn
    exact w_iret C dX11_sounds_15 (by decide) (by decide) (DetI (by rw [if_neg (by omega)]) rfl)
  · skip
    refine w_iload_n (pc2 := 5) C dX11_sounds_4 rfl rfl ?_
    refine w_aload_n (pc2 := 6) C dX11_sounds_5 rfl rfl ?_
    refine w_getR (pc2 := 9) C dX11_sounds_6 fl_X11_7 (by first | exact hy.k _ | assumption) (by first | exact hy.r _ _ | assumption) rfl ?_
    refine w_iconst (pc2 := 10) (v := iI 0) C dX11_sounds_9 (by decide) rfl ?_
    -- at 10: .iaload
    refine z_iald (pc2 := 11) (j := 0) C dX11_sounds_10 (by first | exact hy.k _ | assumption) (by omega) (by omega) (by decide) rfl ?_
    rw [hm.1]
    refine z_icmp_lt (pc2 := 14) (tgt := 16) C dX11_sounds_11 (by decide) rfl (by omega) (by omega) (fun h2 => ?_) (fun h2 => ?_)
    · have hcond : 0 ≤ a ∧ a < c := by omega
      rw [if_pos hcond]
      obtain ⟨k, rfl⟩ : ∃ k : Nat, a = k := ⟨a.toNat, by omega⟩
      have hk : k < c := by omega
      rw [show ((k : Int).toNat) = k from rfl]
      have g := hm.2.2 k hk
      have key : ∀ (d j : Nat), j + d = c → k < j → wp Γ 0 0 (QQ Γ (Det (some (.int (iI (sndR J c k)))) n K (zw J) L R)) 39 [some (.ref 34), some (.int (iI k)), some (.int (iI (srF (tR J) (bR J) k (J 35 (204 + (bR J k).toNat)) j))), some (.int (iI j))] [] n K (zw J) L R := by
        intro d
        induction d with
        | zero =>
          intro j hj hkj
          refine w_iload_n (pc2 := 40) C dX11_sounds_39 rfl rfl ?_
          refine w_aload_n (pc2 := 41) C dX11_sounds_40 rfl rfl ?_
          refine w_getR (pc2 := 44) C dX11_sounds_41 fl_X11_7 (by first | exact hy.k _ | assumption) (by first | exact hy.r _ _ | assumption) rfl ?_
          refine w_iconst (pc2 := 45) (v := iI 0) C dX11_sounds_44 (by decide) rfl ?_
          -- at 45: .iaload
          refine z_iald (pc2 := 46) (j := 0) C dX11_sounds_45 (by first | exact hy.k _ | assumption) (by omega) (by omega) (by decide) rfl ?_
          rw [hm.1]
          refine z_icmp_ge (pc2 := 49) (tgt := 115) C dX11_sounds_46 (by decide) rfl (by omega) (by omega) (fun g1 => ?_) (fun g1 => ?_)
          · skip
            refine w_iload_n (pc2 := 116) C dX11_sounds_115 rfl rfl ?_
            -- at 116: .ireturn
            exact w_iret C dX11_sounds_116 (by decide) (by decide) (DetI (by rw [show j = c by omega]; rfl) rfl)
          · exact absurd hj (by omega)
        | succ d ih =>
          intro j hj hkj
          have gj := hm.2.2 j (by omega)
          have nx := ih (j + 1) (by omega) (by omega)
          have hbd := srF_bd (tk := tR J) (bl := bR J) (k := k) (tail := J 35 (204 + (bR J k).toNat)) (c := c) (by have := ht (bR J k).toNat (by have : bR J k = J 35 (102 + k) := rfl; omega); omega) hk (fun i hi => by have := hm.2.2 i hi; exact ⟨this.1, this.2.1⟩) j (by omega)
          have hst : srF (tR J) (bR J) k (J 35 (204 + (bR J k).toNat)) (j + 1) = if k < j ∧ J 35 (102 + j) = J 35 (102 + k) ∧ J 35 (2 + j) - J 35 (2 + k) < srF (tR J) (bR J) k (J 35 (204 + (bR J k).toNat)) j then J 35 (2 + j) - J 35 (2 + k) else srF (tR J) (bR J) k (J 35 (204 + (bR J k).toNat)) j := rfl
          rw [hst] at nx
          generalize srF (tR J) (bR J) k (J 35 (204 + (bR J k).toNat)) j = z at *
          refine w_iload_n (pc2 := 40) C dX11_sounds_39 rfl rfl ?_
          refine w_aload_n (pc2 := 41) C dX11_sounds_40 rfl rfl ?_
          refine w_getR (pc2 := 44) C dX11_sounds_41 fl_X11_7 (by first | exact hy.k _ | assumption) (by first | exact hy.r _ _ | assumption) rfl ?_
          refine w_iconst (pc2 := 45) (v := iI 0) C dX11_sounds_44 (by decide) rfl ?_
          -- at 45: .iaload
          refine z_iald (pc2 := 46) (j := 0) C dX11_sounds_45 (by first | exact hy.k _ | assumption) (by omega) (by omega) (by decide) rfl ?_
          rw [hm.1]
          refine z_icmp_ge (pc2 := 49) (tgt := 115) C dX11_sounds_46 (by decide) rfl (by omega) (by omega) (fun g1 => ?_) (fun g1 => ?_)
          · exact absurd g1 (by omega)
          · skip
            refine w_aload_n (pc2 := 50) C dX11_sounds_49 rfl rfl ?_
            refine w_getR (pc2 := 53) C dX11_sounds_50 fl_X11_7 (by first | exact hy.k _ | assumption) (by first | exact hy.r _ _ | assumption) rfl ?_
            refine w_bipush (pc2 := 55) (v := iI 102) C dX11_sounds_53 (by decide) rfl ?_
            refine w_iload_n (pc2 := 56) C dX11_sounds_55 rfl rfl ?_
            refine z_iadd (pc2 := 57) C dX11_sounds_56 rfl ?_
            -- at 57: .iaload
            refine z_iald (pc2 := 58) (j := 102 + j) C dX11_sounds_57 (by first | exact hy.k _ | assumption) (by omega) (by omega) (by decide) rfl ?_
            refine w_aload_n (pc2 := 59) C dX11_sounds_58 rfl rfl ?_
            refine w_getR (pc2 := 62) C dX11_sounds_59 fl_X11_7 (by first | exact hy.k _ | assumption) (by first | exact hy.r _ _ | assumption) rfl ?_
            refine w_bipush (pc2 := 64) (v := iI 102) C dX11_sounds_62 (by decide) rfl ?_
            refine w_iload_n (pc2 := 65) C dX11_sounds_64 rfl rfl ?_
            refine z_iadd (pc2 := 66) C dX11_sounds_65 rfl ?_
            -- at 66: .iaload
            refine z_iald (pc2 := 67) (j := 102 + k) C dX11_sounds_66 (by first | exact hy.k _ | assumption) (by omega) (by omega) (by decide) rfl ?_
            refine z_icmp_ne (pc2 := 70) (tgt := 109) C dX11_sounds_67 (by decide) rfl (by omega) (by omega) (fun g2 => ?_) (fun g2 => ?_)
            · rw [if_neg (by omega)] at nx
              refine w_iinc (pc2 := 112) C dX11_sounds_109 rfl (iI_add _ _) rfl (by decide) rfl rfl ?_
              try dsimp only [List.set]
              refine w_goto (tgt := 39) C dX11_sounds_112 (by decide) ?_
              -- at 39: .iload_n 3
              exact nx
            · skip
              refine w_aload_n (pc2 := 71) C dX11_sounds_70 rfl rfl ?_
              refine w_getR (pc2 := 74) C dX11_sounds_71 fl_X11_7 (by first | exact hy.k _ | assumption) (by first | exact hy.r _ _ | assumption) rfl ?_
              refine w_iconst (pc2 := 75) (v := iI 2) C dX11_sounds_74 (by decide) rfl ?_
              refine w_iload_n (pc2 := 76) C dX11_sounds_75 rfl rfl ?_
              refine z_iadd (pc2 := 77) C dX11_sounds_76 rfl ?_
              -- at 77: .iaload
              refine z_iald (pc2 := 78) (j := 2 + j) C dX11_sounds_77 (by first | exact hy.k _ | assumption) (by omega) (by omega) (by decide) rfl ?_
              refine w_aload_n (pc2 := 79) C dX11_sounds_78 rfl rfl ?_
              refine w_getR (pc2 := 82) C dX11_sounds_79 fl_X11_7 (by first | exact hy.k _ | assumption) (by first | exact hy.r _ _ | assumption) rfl ?_
              refine w_iconst (pc2 := 83) (v := iI 2) C dX11_sounds_82 (by decide) rfl ?_
              refine w_iload_n (pc2 := 84) C dX11_sounds_83 rfl rfl ?_
              refine z_iadd (pc2 := 85) C dX11_sounds_84 rfl ?_
              -- at 85: .iaload
              refine z_iald (pc2 := 86) (j := 2 + k) C dX11_sounds_85 (by first | exact hy.k _ | assumption) (by omega) (by omega) (by decide) rfl ?_
              refine z_isub (pc2 := 87) C dX11_sounds_86 rfl ?_
              refine w_iload_n (pc2 := 88) C dX11_sounds_87 rfl rfl ?_
              -- at 88: .if_icmp .ge 21
              refine z_icmp_ge (pc2 := 91) (tgt := 109) C dX11_sounds_88 (by decide) rfl (by omega) (by omega) (fun g3 => ?_) (fun g3 => ?_)
              · rw [if_neg (by omega)] at nx
                refine w_iinc (pc2 := 112) C dX11_sounds_109 rfl (iI_add _ _) rfl (by decide) rfl rfl ?_
                try dsimp only [List.set]
                refine w_goto (tgt := 39) C dX11_sounds_112 (by decide) ?_
                -- at 39: .iload_n 3
                exact nx
              · rw [if_pos (by omega)] at nx
                refine w_aload_n (pc2 := 92) C dX11_sounds_91 rfl rfl ?_
                refine w_getR (pc2 := 95) C dX11_sounds_92 fl_X11_7 (by first | exact hy.k _ | assumption) (by first | exact hy.r _ _ | assumption) rfl ?_
                refine w_iconst (pc2 := 96) (v := iI 2) C dX11_sounds_95 (by decide) rfl ?_
                refine w_iload_n (pc2 := 97) C dX11_sounds_96 rfl rfl ?_
                refine z_iadd (pc2 := 98) C dX11_sounds_97 rfl ?_
                -- at 98: .iaload
                refine z_iald (pc2 := 99) (j := 2 + j) C dX11_sounds_98 (by first | exact hy.k _ | assumption) (by omega) (by omega) (by decide) rfl ?_
                refine w_aload_n (pc2 := 100) C dX11_sounds_99 rfl rfl ?_
                refine w_getR (pc2 := 103) C dX11_sounds_100 fl_X11_7 (by first | exact hy.k _ | assumption) (by first | exact hy.r _ _ | assumption) rfl ?_
                refine w_iconst (pc2 := 104) (v := iI 2) C dX11_sounds_103 (by decide) rfl ?_
                refine w_iload_n (pc2 := 105) C dX11_sounds_104 rfl rfl ?_
                refine z_iadd (pc2 := 106) C dX11_sounds_105 rfl ?_
                -- at 106: .iaload
                refine z_iald (pc2 := 107) (j := 2 + k) C dX11_sounds_106 (by first | exact hy.k _ | assumption) (by omega) (by omega) (by decide) rfl ?_
                refine z_isub (pc2 := 108) C dX11_sounds_107 rfl ?_
                refine w_istore_n (pc2 := 109) C dX11_sounds_108 rfl (by decide) rfl rfl ?_
                try dsimp only [List.set]
                refine w_iinc (pc2 := 112) C dX11_sounds_109 rfl (iI_add _ _) rfl (by decide) rfl rfl ?_
                try dsimp only [List.set]
                refine w_goto (tgt := 39) C dX11_sounds_112 (by decide) ?_
                -- at 39: .iload_n 3
                exact nx
      refine w_aload_n (pc2 := 17) C dX11_sounds_16 rfl rfl ?_
      refine w_getR (pc2 := 20) C dX11_sounds_17 fl_X11_7 (by first | exact hy.k _ | assumption) (by first | exact hy.r _ _ | assumption) rfl ?_
      refine w_sipush (pc2 := 23) (v := iI 204) C dX11_sounds_20 (by decide) rfl ?_
      refine w_aload_n (pc2 := 24) C dX11_sounds_23 rfl rfl ?_
      refine w_getR (pc2 := 27) C dX11_sounds_24 fl_X11_7 (by first | exact hy.k _ | assumption) (by first | exact hy.r _ _ | assumption) rfl ?_
      refine w_bipush (pc2 := 29) (v := iI 102) C dX11_sounds_27 (by decide) rfl ?_
      refine w_iload_n (pc2 := 30) C dX11_sounds_29 rfl rfl ?_
      refine z_iadd (pc2 := 31) C dX11_sounds_30 rfl ?_
      -- at 31: .iaload
      refine z_iald (pc2 := 32) (j := 102 + k) C dX11_sounds_31 (by first | exact hy.k _ | assumption) (by omega) (by omega) (by decide) rfl ?_
      refine z_iadd (pc2 := 33) C dX11_sounds_32 rfl ?_
      -- at 33: .iaload
      refine z_iald (pc2 := 34) (j := 204 + (bR J k).toNat) C dX11_sounds_33 (by first | exact hy.k _ | assumption) (by have : bR J k = J 35 (102 + k) := rfl; omega) (by have : bR J k = J 35 (102 + k) := rfl; omega) (by decide) rfl ?_
      refine w_istore_n (pc2 := 35) C dX11_sounds_34 rfl (by decide) rfl rfl ?_
      try dsimp only [List.set]
      refine w_iload_n (pc2 := 36) C dX11_sounds_35 rfl rfl ?_
      refine w_iconst (pc2 := 37) (v := iI 1) C dX11_sounds_36 (by decide) rfl ?_
      refine z_iadd (pc2 := 38) C dX11_sounds_37 rfl ?_
      refine w_istore_n (pc2 := 39) C dX11_sounds_38 rfl (by decide) rfl rfl ?_
      try dsimp only [List.set]
      -- at 39: .iload_n 3
      have h0 := key (c - (k + 1)) (k + 1) (by omega) (by omega)
      rw [srF_k (k + 1) (Nat.le_refl _)] at h0
      exact h0
    · skip
      refine w_iconst (pc2 := 15) (v := iI (-1)) C dX11_sounds_14 (by decide) rfl ?_
      -- at 15: .ireturn
      exact w_iret C dX11_sounds_15 (by decide) (by decide) (DetI (by rw [if_neg (by omega)]) rfl)
end REF3
