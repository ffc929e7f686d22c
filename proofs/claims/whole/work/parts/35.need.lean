/-! ===== the least REACH, by the class ===== -/
def rfF (tk bl : Nat → Int) (l k : Nat) : Int := if l = 0 then 1 else if tk k - tk (l - 1) < 1 then 25 else (((bl k - bl (l - 1)).natAbs : Int) + (tk k - tk (l - 1)) - 1) / (tk k - tk (l - 1))
def minN (f : Nat → Int) : Nat → Int
  | 0 => 25
  | n + 1 => min (minN f n) (f n)
def nxL (tk bl : Nat → Int) (k : Nat) (SL SR : Nat → Int) : Nat → Int := fun i => if i = k then (if tk k = tk (k - 1) then 25 else minN (fun i => max (SR i) (rfF tk bl i k)) k) else max (SL i) (rfF tk bl k k)
def nxR (tk bl : Nat → Int) (k : Nat) (SL SR : Nat → Int) : Nat → Int := fun i => if i = k then minN (fun i => max (SL i) (rfF tk bl i k)) k else max (SR i) (rfF tk bl k k)
/-- the least REACH so far: LEFT struck last, RIGHT struck last; the other's last one is i -/
def NS (tk bl : Nat → Int) : Nat → (Nat → Int) × (Nat → Int)
  | 0 => (fun _ => 1, fun _ => 1)
  | k + 1 => (nxL tk bl (k + 1) (NS tk bl k).1 (NS tk bl k).2, nxR tk bl (k + 1) (NS tk bl k).1 (NS tk bl k).2)
def needF (tk bl : Nat → Int) (c : Nat) : Int := if c = 0 then 1 else if minN (fun i => min ((NS tk bl (c - 1)).1 i) ((NS tk bl (c - 1)).2 i)) c < 25 then minN (fun i => min ((NS tk bl (c - 1)).1 i) ((NS tk bl (c - 1)).2 i)) c else -1
theorem minN_cong {f g : Nat → Int} : ∀ n, (∀ k, k < n → f k = g k) → minN f n = minN g n
  | 0, _ => rfl
  | n + 1, h => by simp only [minN]; rw [minN_cong n (fun k hk => h k (by omega)), h n (by omega)]
theorem rfF_bd {tk bl : Nat → Int} {l k c : Nat} (hk : k < c) (hl : l ≤ c) (h : ∀ i, i < c → 0 ≤ tk i ∧ tk i ≤ 3000 ∧ 0 ≤ bl i ∧ bl i < 24) : 0 ≤ rfF tk bl l k ∧ rfF tk bl l k ≤ 25 := by
  unfold rfF
  split
  · omega
  · have h1 := h k hk
    have h2 := h (l - 1) (by omega)
    split
    · omega
    · generalize tk k - tk (l - 1) = t at *
      have h3 : 1 ≤ t := by omega
      have h4 : ((bl k - bl (l - 1)).natAbs : Int) ≤ 23 := by omega
      have h5 : 0 ≤ ((bl k - bl (l - 1)).natAbs : Int) := by omega
      generalize ((bl k - bl (l - 1)).natAbs : Int) = w at *
      constructor
      · exact Int.ediv_nonneg (by omega) (by omega)
      · apply Int.le_of_lt_add_one
        apply Int.ediv_lt_of_lt_mul (by omega)
        have : 26 * 1 ≤ 26 * t := by omega
        have h6 : (25 + 1) * t = 26 * t := by omega
        omega
theorem minN_bd {f : Nat → Int} : ∀ n, (∀ k, k < n → 0 ≤ f k) → 0 ≤ minN f n ∧ minN f n ≤ 25
  | 0, _ => by simp [minN]
  | n + 1, h => by
    have h1 := minN_bd n (fun k hk => h k (by omega))
    have h2 := h n (by omega)
    simp only [minN]
    omega
theorem NS_bd {tk bl : Nat → Int} {c : Nat} (h : ∀ i, i < c → 0 ≤ tk i ∧ tk i ≤ 3000 ∧ 0 ≤ bl i ∧ bl i < 24) : ∀ k, k < c → ∀ i, i ≤ k → (0 ≤ (NS tk bl k).1 i ∧ (NS tk bl k).1 i ≤ 25) ∧ (0 ≤ (NS tk bl k).2 i ∧ (NS tk bl k).2 i ≤ 25)
  | 0, _, i, _ => by simp [NS]
  | k + 1, hk, i, hi => by
    have ih := NS_bd h k (by omega)
    have r := rfF_bd (l := k + 1) (k := k + 1) hk (by omega) h
    simp only [NS, nxL, nxR]
    by_cases e : i = k + 1
    · rw [if_pos e, if_pos e]
      have m1 := minN_bd (f := fun i => max ((NS tk bl k).2 i) (rfF tk bl i (k + 1))) (k + 1) (fun j hj => by have := (ih j (by omega)).2; show 0 ≤ max _ _; omega)
      have m2 := minN_bd (f := fun i => max ((NS tk bl k).1 i) (rfF tk bl i (k + 1))) (k + 1) (fun j hj => by have := (ih j (by omega)).1; show 0 ≤ max _ _; omega)
      constructor
      · split <;> omega
      · omega
    · rw [if_neg e, if_neg e]
      have := ih i (by omega)
      omega
section NEED
variable {n : Nat} {K : wKd} {J : wJn} {L : wLn} {R : wRf}
theorem s_X3_reachFor (hy : Ly K R) {c l k : Nat} (hm : Mus J c) (hl : l ≤ c) (hk : k < c) : S_X3_reachFor [.ref 28, .int (iI ((l : Int) - 1)), .int (iI k)] n K (zw J) L R (Det (some (.int (iI (rfF (J 13) (J 14) l k)))) n K (zw J) L R) := by
  have hc2 := hm.2.1
  have g1 := hm.2.2 k hk
  refine Sp_intro [some (.ref 28), some (.int (iI ((l : Int) - 1))), some (.int (iI k)), none] rfl rfl (Nat.le_of_ble_eq_true rfl) rfl ?_
  intro Γ C
  replace C : C_X3_reachFor Γ := C
  refine w_iload_n (pc2 := 1) C dX3_reachFor_0 rfl rfl ?_
  refine w_iconst (pc2 := 2) (v := iI (-1)) C dX3_reachFor_1 (by decide) rfl ?_
  -- at 2: .if_icmp .ne 5
  refine z_icmp_ne (pc2 := 5) (tgt := 7) C dX3_reachFor_2 (by decide) rfl (by omega) (by omega) (fun h1 => ?_) (fun h1 => ?_)
  · have g2 := hm.2.2 (l - 1) (by omega)
    have e : ((l : Int) - 1) = ((l - 1 : Nat) : Int) := by omega
    rw [e]
    refine w_aload_n (pc2 := 8) C dX3_reachFor_7 rfl rfl ?_
    refine w_getR (pc2 := 11) C dX3_reachFor_8 fl_X3_16 (by first | exact hy.k _ | assumption) (by first | exact hy.r _ _ | assumption) rfl ?_
    refine w_getR (pc2 := 14) C dX3_reachFor_11 fl_X3_39 (by first | exact hy.k _ | assumption) (by first | exact hy.r _ _ | assumption) rfl ?_
    refine w_iload_n (pc2 := 15) C dX3_reachFor_14 rfl rfl ?_
    -- at 15: .iaload
    refine z_iald (pc2 := 16) (j := k) C dX3_reachFor_15 (by first | exact hy.k _ | assumption) (by omega) (by omega) (by decide) rfl ?_
    refine w_aload_n (pc2 := 17) C dX3_reachFor_16 rfl rfl ?_
    refine w_getR (pc2 := 20) C dX3_reachFor_17 fl_X3_16 (by first | exact hy.k _ | assumption) (by first | exact hy.r _ _ | assumption) rfl ?_
    refine w_getR (pc2 := 23) C dX3_reachFor_20 fl_X3_39 (by first | exact hy.k _ | assumption) (by first | exact hy.r _ _ | assumption) rfl ?_
    refine w_iload_n (pc2 := 24) C dX3_reachFor_23 rfl rfl ?_
    -- at 24: .iaload
    refine z_iald (pc2 := 25) (j := l - 1) C dX3_reachFor_24 (by first | exact hy.k _ | assumption) (by omega) (by omega) (by decide) rfl ?_
    refine z_isub (pc2 := 26) C dX3_reachFor_25 rfl ?_
    refine w_istore_n (pc2 := 27) C dX3_reachFor_26 rfl (by decide) rfl rfl ?_
    try dsimp only [List.set]
    refine w_iload_n (pc2 := 28) C dX3_reachFor_27 rfl rfl ?_
    refine w_iconst (pc2 := 29) (v := iI 1) C dX3_reachFor_28 (by decide) rfl ?_
    -- at 29: .if_icmp .ge 6
    refine z_icmp_ge (pc2 := 32) (tgt := 35) C dX3_reachFor_29 (by decide) rfl (by omega) (by omega) (fun h2 => ?_) (fun h2 => ?_)
    · skip
      refine w_aload_n (pc2 := 36) C dX3_reachFor_35 rfl rfl ?_
      refine w_getR (pc2 := 39) C dX3_reachFor_36 fl_X3_16 (by first | exact hy.k _ | assumption) (by first | exact hy.r _ _ | assumption) rfl ?_
      refine w_iload_n (pc2 := 40) C dX3_reachFor_39 rfl rfl ?_
      refine w_iload_n (pc2 := 41) C dX3_reachFor_40 rfl rfl ?_
      -- at 41: .invokevirtual 49
      refine w_cVi (pc2 := 44)  C dX3_reachFor_41 mb_X3_49 mv_X5_bellsBetween (s_X5_bellsBetween hy hm (show l - 1 < c by omega) hk) (by first | exact hy.k _ | assumption) rfl (by decide) rfl rfl (Nat.le_of_ble_eq_true rfl) ⟨by decide, by decide⟩ ⟨rfl, rfl⟩ ⟨by decide, by decide⟩ rfl ?_
      refine w_iload_n (pc2 := 45) C dX3_reachFor_44 rfl rfl ?_
      refine z_iadd (pc2 := 46) C dX3_reachFor_45 rfl ?_
      refine w_iconst (pc2 := 47) (v := iI 1) C dX3_reachFor_46 (by decide) rfl ?_
      refine z_isub (pc2 := 48) C dX3_reachFor_47 rfl ?_
      refine w_iload_n (pc2 := 49) C dX3_reachFor_48 rfl rfl ?_
      -- at 49: .idiv
      refine z_idiv (pc2 := 50) C dX3_reachFor_49 (by omega) rfl ?_
      exact w_iret C dX3_reachFor_50 (by decide) (by decide) (DetI (by rw [rfF, if_neg (by omega), if_neg (by omega)]) rfl)
    · skip
      refine w_bipush (pc2 := 34) (v := iI 25) C dX3_reachFor_32 (by decide) rfl ?_
      -- at 34: .ireturn
      exact w_iret C dX3_reachFor_34 (by decide) (by decide) (DetI (by rw [rfF, if_neg (by omega), if_pos (by omega)]) rfl)
  · skip
    refine w_iconst (pc2 := 6) (v := iI 1) C dX3_reachFor_5 (by decide) rfl ?_
    -- at 6: .ireturn
    exact w_iret C dX3_reachFor_6 (by decide) (by decide) (DetI (by rw [rfF, if_pos (by omega)]) rfl)
theorem s_X3_handOver (hy : Ly K R) {c k f : Nat} (hf : f = 0 ∨ f = 1) (hm : Mus J c) (hk0 : 1 ≤ k) (hk : k < c) (hS : ∀ i, i < k → 0 ≤ J (30 + f) i ∧ J (30 + f) i ≤ 25) : S_X3_handOver [.ref 28, .int (iI f), .int (iI k)] n K (zw J) L R (Det (some (.int (iI (if f = 1 ∧ J 13 k = J 13 (k - 1) then 25 else minN (fun i => max (J (30 + f) i) (rfF (J 13) (J 14) i k)) k)))) n K (zw J) L R) := by
  have hc2 := hm.2.1
  have g1 := hm.2.2 k hk
  have g2 := hm.2.2 (k - 1) (by omega)
  have hR : R 29 f = some (30 + f) := by rcases hf with e | e <;> subst e <;> exact hy.r _ _
  have hK : K (30 + f) = (100, 100) := by rcases hf with e | e <;> subst e <;> exact hy.k _
  refine Sp_intro [some (.ref 28), some (.int (iI f)), some (.int (iI k)), none, none] rfl rfl (Nat.le_of_ble_eq_true rfl) rfl ?_
  intro Γ C
  replace C : C_X3_handOver Γ := C
  have fin : ¬ (f = 1 ∧ J 13 k = J 13 (k - 1)) → wp Γ 0 0 (QQ Γ (Det (some (.int (iI (if f = 1 ∧ J 13 k = J 13 (k - 1) then 25 else minN (fun i => max (J (30 + f) i) (rfF (J 13) (J 14) i k)) k)))) n K (zw J) L R)) 31 [some (.ref 28), some (.int (iI f)), some (.int (iI k)), none, none] [] n K (zw J) L R := by
    intro hne
    rw [if_neg hne]
    have key : ∀ (d i : Nat), i + d = k → wp Γ 0 0 (QQ Γ (Det (some (.int (iI (minN (fun i => max (J (30 + f) i) (rfF (J 13) (J 14) i k)) k)))) n K (zw J) L R)) 37 [some (.ref 28), some (.int (iI f)), some (.int (iI k)), some (.int (iI (minN (fun i => max (J (30 + f) i) (rfF (J 13) (J 14) i k)) i))), some (.int (iI i))] [] n K (zw J) L R := by
      intro d
      induction d with
      | zero =>
        intro i hi
        refine w_iload (pc2 := 39) C dX3_handOver_37 rfl rfl ?_
        refine w_iload_n (pc2 := 40) C dX3_handOver_39 rfl rfl ?_
        -- at 40: .if_icmp .ge 35
        refine z_icmp_ge (pc2 := 43) (tgt := 75) C dX3_handOver_40 (by decide) rfl (by omega) (by omega) (fun h1 => ?_) (fun h1 => ?_)
        · skip
          refine w_iload_n (pc2 := 76) C dX3_handOver_75 rfl rfl ?_
          -- at 76: .ireturn
          exact w_iret C dX3_handOver_76 (by decide) (by decide) (DetI (by rw [show i = k by omega]) rfl)
        · exact absurd hi (by omega)
      | succ d ih =>
        intro i hi
        have b1 := hS i (by omega)
        have b2 := rfF_bd (tk := J 13) (bl := J 14) (l := i) hk (by omega) hm.2.2
        have b3 := minN_bd (f := fun i => max (J (30 + f) i) (rfF (J 13) (J 14) i k)) i (fun j hj => by have := hS j (by omega); show 0 ≤ max _ _; omega)
        refine w_iload (pc2 := 39) C dX3_handOver_37 rfl rfl ?_
        refine w_iload_n (pc2 := 40) C dX3_handOver_39 rfl rfl ?_
        -- at 40: .if_icmp .ge 35
        refine z_icmp_ge (pc2 := 43) (tgt := 75) C dX3_handOver_40 (by decide) rfl (by omega) (by omega) (fun h1 => ?_) (fun h1 => ?_)
        · exact absurd hi (by omega)
        · skip
          refine w_iload_n (pc2 := 44) C dX3_handOver_43 rfl rfl ?_
          refine w_aload_n (pc2 := 45) C dX3_handOver_44 rfl rfl ?_
          refine w_getR (pc2 := 48) C dX3_handOver_45 fl_X3_11 (by first | exact hy.k _ | assumption) (by first | exact hy.r _ _ | assumption) rfl ?_
          refine w_iload_n (pc2 := 49) C dX3_handOver_48 rfl rfl ?_
          -- at 49: .aaload
          refine z_aald (pc2 := 50) (j := f) C dX3_handOver_49 (by first | exact hy.k _ | assumption) (by simp) (by omega) (by omega) (by decide) rfl ?_
          rw [hR]
          refine w_iload (pc2 := 52) C dX3_handOver_50 rfl rfl ?_
          -- at 52: .iaload
          refine z_iald (pc2 := 53) (j := i) C dX3_handOver_52 (by first | exact hy.k _ | assumption) (by omega) (by omega) (by decide) rfl ?_
          refine w_aload_n (pc2 := 54) C dX3_handOver_53 rfl rfl ?_
          refine w_iload (pc2 := 56) C dX3_handOver_54 rfl rfl ?_
          refine w_iconst (pc2 := 57) (v := iI 1) C dX3_handOver_56 (by decide) rfl ?_
          refine z_isub (pc2 := 58) C dX3_handOver_57 rfl ?_
          refine w_iload_n (pc2 := 59) C dX3_handOver_58 rfl rfl ?_
          -- at 59: .invokevirtual 43
          refine w_cVi (pc2 := 62)  C dX3_handOver_59 mb_X3_43 mv_X3_reachFor (s_X3_reachFor hy hm (show i ≤ c by omega) hk) (by first | exact hy.k _ | assumption) rfl (by decide) rfl rfl (Nat.le_of_ble_eq_true rfl) ⟨by decide, by decide⟩ ⟨rfl, rfl⟩ ⟨by decide, by decide⟩ rfl ?_
          refine z_mmax (pc2 := 65) C dX3_handOver_62 mm_X3_46 jm_max jm_ini jc_max (by decide) (Nat.le_of_ble_eq_true rfl) (by decide) (by decide) rfl (by omega) (by omega) ?_
          refine z_mmin (pc2 := 68) C dX3_handOver_65 mm_X3_34 jm_min jm_ini jc_min (by decide) (Nat.le_of_ble_eq_true rfl) (by decide) (by decide) rfl (by omega) (by omega) ?_
          refine w_istore_n (pc2 := 69) C dX3_handOver_68 rfl (by decide) rfl rfl ?_
          try dsimp only [List.set]
          refine w_iinc (pc2 := 72) C dX3_handOver_69 rfl (iI_add _ _) rfl (by decide) rfl rfl ?_
          try dsimp only [List.set]
          refine w_goto (tgt := 37) C dX3_handOver_72 (by decide) ?_
          -- at 37: .iload 4
          exact ih (i + 1) (by omega)
    refine w_bipush (pc2 := 33) (v := iI 25) C dX3_handOver_31 (by decide) rfl ?_
    refine w_istore_n (pc2 := 34) C dX3_handOver_33 rfl (by decide) rfl rfl ?_
    try dsimp only [List.set]
    refine w_iconst (pc2 := 35) (v := iI 0) C dX3_handOver_34 (by decide) rfl ?_
    refine w_istore (pc2 := 37) C dX3_handOver_35 rfl (by decide) rfl rfl ?_
    try dsimp only [List.set]
    -- at 37: .iload 4
    exact key k 0 (by omega)
  refine w_iload_n (pc2 := 1) C dX3_handOver_0 rfl rfl ?_
  refine w_iconst (pc2 := 2) (v := iI 1) C dX3_handOver_1 (by decide) rfl ?_
  -- at 2: .if_icmp .ne 29
  refine z_icmp_ne (pc2 := 5) (tgt := 31) C dX3_handOver_2 (by decide) rfl (by omega) (by omega) (fun h1 => ?_) (fun h1 => ?_)
  · skip
    -- at 31: .bipush 25
    exact fin (by omega)
  · skip
    refine w_aload_n (pc2 := 6) C dX3_handOver_5 rfl rfl ?_
    refine w_getR (pc2 := 9) C dX3_handOver_6 fl_X3_16 (by first | exact hy.k _ | assumption) (by first | exact hy.r _ _ | assumption) rfl ?_
    refine w_getR (pc2 := 12) C dX3_handOver_9 fl_X3_39 (by first | exact hy.k _ | assumption) (by first | exact hy.r _ _ | assumption) rfl ?_
    refine w_iload_n (pc2 := 13) C dX3_handOver_12 rfl rfl ?_
    -- at 13: .iaload
    refine z_iald (pc2 := 14) (j := k) C dX3_handOver_13 (by first | exact hy.k _ | assumption) (by omega) (by omega) (by decide) rfl ?_
    refine w_aload_n (pc2 := 15) C dX3_handOver_14 rfl rfl ?_
    refine w_getR (pc2 := 18) C dX3_handOver_15 fl_X3_16 (by first | exact hy.k _ | assumption) (by first | exact hy.r _ _ | assumption) rfl ?_
    refine w_getR (pc2 := 21) C dX3_handOver_18 fl_X3_39 (by first | exact hy.k _ | assumption) (by first | exact hy.r _ _ | assumption) rfl ?_
    refine w_iload_n (pc2 := 22) C dX3_handOver_21 rfl rfl ?_
    refine w_iconst (pc2 := 23) (v := iI 1) C dX3_handOver_22 (by decide) rfl ?_
    refine z_isub (pc2 := 24) C dX3_handOver_23 rfl ?_
    -- at 24: .iaload
    refine z_iald (pc2 := 25) (j := k - 1) C dX3_handOver_24 (by first | exact hy.k _ | assumption) (by omega) (by omega) (by decide) rfl ?_
    -- at 25: .if_icmp .ne 6
    refine z_icmp_ne (pc2 := 28) (tgt := 31) C dX3_handOver_25 (by decide) rfl (by omega) (by omega) (fun h2 => ?_) (fun h2 => ?_)
    · exact fin (by omega)
    · skip
      refine w_bipush (pc2 := 30) (v := iI 25) C dX3_handOver_28 (by decide) rfl ?_
      -- at 30: .ireturn
      exact w_iret C dX3_handOver_30 (by decide) (by decide) (DetI (by rw [if_pos (by omega)]) rfl)
theorem s_X3_stay (hy : Ly K R) {c k f : Nat} (hf : f = 0 ∨ f = 1) (hm : Mus J c) (hk0 : 1 ≤ k) (hk : k < c) (hS : ∀ i, i < k → 0 ≤ J (30 + f) i ∧ J (30 + f) i ≤ 25) : S_X3_stay [.ref 28, .int (iI f), .int (iI k)] n K (zw J) L R (Det none n K (zw (ov J (30 + f) (fun i => max (J (30 + f) i) (rfF (J 13) (J 14) k k)) k)) L R) := by
  have hc2 := hm.2.1
  have hR : R 29 f = some (30 + f) := by rcases hf with e | e <;> subst e <;> exact hy.r _ _
  have hK : K (30 + f) = (100, 100) := by rcases hf with e | e <;> subst e <;> exact hy.k _
  have b2 := rfF_bd (tk := J 13) (bl := J 14) (l := k) hk (by omega) hm.2.2
  refine Sp_intro [some (.ref 28), some (.int (iI f)), some (.int (iI k)), none, none] rfl rfl (Nat.le_of_ble_eq_true rfl) rfl ?_
  intro Γ C
  replace C : C_X3_stay Γ := C
  have key : ∀ (d i : Nat), i + d = k → wp Γ 0 0 (QQ Γ (Det none n K (zw (ov J (30 + f) (fun i => max (J (30 + f) i) (rfF (J 13) (J 14) k k)) k)) L R)) 12 [some (.ref 28), some (.int (iI f)), some (.int (iI k)), some (.int (iI (rfF (J 13) (J 14) k k))), some (.int (iI i))] [] n K (zw (ov J (30 + f) (fun i => max (J (30 + f) i) (rfF (J 13) (J 14) k k)) i)) L R := by
    intro d
    induction d with
    | zero =>
      intro i hi
      refine w_iload (pc2 := 14) C dX3_stay_12 rfl rfl ?_
      refine w_iload_n (pc2 := 15) C dX3_stay_14 rfl rfl ?_
      -- at 15: .if_icmp .ge 31
      refine z_icmp_ge (pc2 := 18) (tgt := 46) C dX3_stay_15 (by decide) rfl (by omega) (by omega) (fun h1 => ?_) (fun h1 => ?_)
      · skip
        exact w_ret C dX3_stay_46 (by decide) (by decide) (DetI rfl (by rw [show i = k by omega]))
      · exact absurd hi (by omega)
    | succ d ih =>
      intro i hi
      have b1 := hS i (by omega)
      refine w_iload (pc2 := 14) C dX3_stay_12 rfl rfl ?_
      refine w_iload_n (pc2 := 15) C dX3_stay_14 rfl rfl ?_
      -- at 15: .if_icmp .ge 31
      refine z_icmp_ge (pc2 := 18) (tgt := 46) C dX3_stay_15 (by decide) rfl (by omega) (by omega) (fun h1 => ?_) (fun h1 => ?_)
      · exact absurd hi (by omega)
      · skip
        refine w_aload_n (pc2 := 19) C dX3_stay_18 rfl rfl ?_
        refine w_getR (pc2 := 22) C dX3_stay_19 fl_X3_11 (by first | exact hy.k _ | assumption) (by first | exact hy.r _ _ | assumption) rfl ?_
        refine w_iload_n (pc2 := 23) C dX3_stay_22 rfl rfl ?_
        -- at 23: .aaload
        refine z_aald (pc2 := 24) (j := f) C dX3_stay_23 (by first | exact hy.k _ | assumption) (by simp) (by omega) (by omega) (by decide) rfl ?_
        rw [hR]
        refine w_iload (pc2 := 26) C dX3_stay_24 rfl rfl ?_
        refine w_aload_n (pc2 := 27) C dX3_stay_26 rfl rfl ?_
        refine w_getR (pc2 := 30) C dX3_stay_27 fl_X3_11 (by first | exact hy.k _ | assumption) (by first | exact hy.r _ _ | assumption) rfl ?_
        refine w_iload_n (pc2 := 31) C dX3_stay_30 rfl rfl ?_
        -- at 31: .aaload
        refine z_aald (pc2 := 32) (j := f) C dX3_stay_31 (by first | exact hy.k _ | assumption) (by simp) (by omega) (by omega) (by decide) rfl ?_
        rw [hR]
        refine w_iload (pc2 := 34) C dX3_stay_32 rfl rfl ?_
        -- at 34: .iaload
        refine z_iald (pc2 := 35) (j := i) C dX3_stay_34 (by first | exact hy.k _ | assumption) (by omega) (by omega) (by decide) rfl ?_
        rw [ov_out (J := J) (r := 30 + f) (Nat.lt_irrefl i)]
        refine w_iload_n (pc2 := 36) C dX3_stay_35 rfl rfl ?_
        refine z_mmax (pc2 := 39) C dX3_stay_36 mm_X3_46 jm_max jm_ini jc_max (by decide) (Nat.le_of_ble_eq_true rfl) (by decide) (by decide) rfl (by omega) (by omega) ?_
        -- at 39: .iastore
        refine z_iast (pc2 := 40) (j := i) C dX3_stay_39 (by first | exact hy.k _ | assumption) (by omega) (by omega) (by decide) rfl ?_
        have e := ov_up J (30 + f) (fun i => max (J (30 + f) i) (rfF (J 13) (J 14) k k)) i
        rw [e]
        refine w_iinc (pc2 := 43) C dX3_stay_40 rfl (iI_add _ _) rfl (by decide) rfl rfl ?_
        try dsimp only [List.set]
        refine w_goto (tgt := 12) C dX3_stay_43 (by decide) ?_
        -- at 12: .iload 4
        exact ih (i + 1) (by omega)
  refine w_aload_n (pc2 := 1) C dX3_stay_0 rfl rfl ?_
  refine w_iload_n (pc2 := 2) C dX3_stay_1 rfl rfl ?_
  refine w_iconst (pc2 := 3) (v := iI 1) C dX3_stay_2 (by decide) rfl ?_
  refine z_isub (pc2 := 4) C dX3_stay_3 rfl ?_
  refine w_iload_n (pc2 := 5) C dX3_stay_4 rfl rfl ?_
  -- at 5: .invokevirtual 43
  refine w_cVi (pc2 := 8)  C dX3_stay_5 mb_X3_43 mv_X3_reachFor (s_X3_reachFor hy hm (show k ≤ c by omega) hk) (by first | exact hy.k _ | assumption) rfl (by decide) rfl rfl (Nat.le_of_ble_eq_true rfl) ⟨by decide, by decide⟩ ⟨rfl, rfl⟩ ⟨by decide, by decide⟩ rfl ?_
  refine w_istore_n (pc2 := 9) C dX3_stay_8 rfl (by decide) rfl rfl ?_
  try dsimp only [List.set]
  refine w_iconst (pc2 := 10) (v := iI 0) C dX3_stay_9 (by decide) rfl ?_
  refine w_istore (pc2 := 12) C dX3_stay_10 rfl (by decide) rfl rfl ?_
  try dsimp only [List.set]
  -- at 12: .iload 4
  have := key k 0 (by omega)
  rw [ov_0] at this
  exact this
theorem s_X3_leastReach (hy : Ly K R) {c : Nat} (hm : Mus J c) : S_X3_leastReach [.ref 28] n K (zw J) L R (fun r2 n2 K2 I2 L2 R2 => ∃ J2 : wJn, Det (some (.int (iI (needF (J 13) (J 14) c)))) n K (zw J2) L R r2 n2 K2 I2 L2 R2 ∧ ∀ a, a ≠ 30 → a ≠ 31 → J2 a = J a) := by
  have hc := hm.1
  have hc2 := hm.2.1
  have hbd := NS_bd (tk := J 13) (bl := J 14) hm.2.2
  have r0 : R 29 0 = some 30 := hy.r 29 0
  have r1 : R 29 1 = some 31 := hy.r 29 1
  refine Sp_intro [some (.ref 28), none, none, none] rfl rfl (Nat.le_of_ble_eq_true rfl) rfl ?_
  intro Γ C
  replace C : C_X3_leastReach Γ := C
  generalize hpost : (fun (r2 : Option Value) (n2 : Nat) (K2 : wKd) (I2 : wIn) (L2 : wLn) (R2 : wRf) => ∃ J2 : wJn, Det (some (.int (iI (needF (J 13) (J 14) c)))) n K (zw J2) L R r2 n2 K2 I2 L2 R2 ∧ ∀ a, a ≠ 30 → a ≠ 31 → J2 a = J a) = post
  -- the least of all
  have key2 : ∀ (d i : Nat) (J2 : wJn), 1 ≤ c → i + d = c → (∀ a, a ≠ 30 → a ≠ 31 → J2 a = J a) → (∀ i, i < c → J2 30 i = (NS (J 13) (J 14) (c - 1)).1 i ∧ J2 31 i = (NS (J 13) (J 14) (c - 1)).2 i) → wp Γ 0 0 (QQ Γ post) 98 [some (.ref 28), some (.int (iI (minN (fun i => min ((NS (J 13) (J 14) (c - 1)).1 i) ((NS (J 13) (J 14) (c - 1)).2 i)) i))), some (.int (iI i)), none] [] n K (zw J2) L R := by
    intro d
    induction d with
    | zero =>
      intro i J2 h1c hi hrow hS
      have e12 : J2 12 = J 12 := hrow 12 (by decide) (by decide)
      have b3 := minN_bd (f := fun i => min ((NS (J 13) (J 14) (c - 1)).1 i) ((NS (J 13) (J 14) (c - 1)).2 i)) i (fun j hj => by have := hbd (c - 1) (by omega) j (by omega); show 0 ≤ min _ _; omega)
      refine w_iload_n (pc2 := 99) C dX3_leastReach_98 rfl rfl ?_
      refine w_aload_n (pc2 := 100) C dX3_leastReach_99 rfl rfl ?_
      refine w_getR (pc2 := 103) C dX3_leastReach_100 fl_X3_16 (by first | exact hy.k _ | assumption) (by first | exact hy.r _ _ | assumption) rfl ?_
      refine z_getI (pc2 := 106) C dX3_leastReach_103 fl_X3_20 (by first | exact hy.k _ | assumption) rfl ?_
      -- at 106: .if_icmp .ge 33
      rw [e12]
      refine z_icmp_ge (pc2 := 109) (tgt := 139) C dX3_leastReach_106 (by decide) rfl (by omega) (by omega) (fun h1 => ?_) (fun h1 => ?_)
      · have e : i = c := by omega
        subst e
        refine w_iload_n (pc2 := 140) C dX3_leastReach_139 rfl rfl ?_
        refine w_bipush (pc2 := 142) (v := iI 25) C dX3_leastReach_140 (by decide) rfl ?_
        -- at 142: .if_icmp .ge 7
        refine z_icmp_ge (pc2 := 145) (tgt := 149) C dX3_leastReach_142 (by decide) rfl (by omega) (by omega) (fun h2 => ?_) (fun h2 => ?_)
        · skip
          refine w_iconst (pc2 := 150) (v := iI (-1)) C dX3_leastReach_149 (by decide) rfl ?_
          -- at 150: .ireturn
          exact w_iret C dX3_leastReach_150 (by decide) (by decide) (by rw [← hpost]; exact ⟨J2, DetI (by rw [needF, if_neg (by omega), if_neg (by omega)]) rfl, hrow⟩)
        · skip
          refine w_iload_n (pc2 := 146) C dX3_leastReach_145 rfl rfl ?_
          refine w_goto (tgt := 150) C dX3_leastReach_146 (by decide) ?_
          -- at 150: .ireturn
          exact w_iret C dX3_leastReach_150 (by decide) (by decide) (by rw [← hpost]; exact ⟨J2, DetI (by rw [needF, if_neg (by omega), if_pos (by omega)]) rfl, hrow⟩)
      · exact absurd hi (by omega)
    | succ d ih =>
      intro i J2 h1c hi hrow hS
      have e12 : J2 12 = J 12 := hrow 12 (by decide) (by decide)
      have b3 := minN_bd (f := fun i => min ((NS (J 13) (J 14) (c - 1)).1 i) ((NS (J 13) (J 14) (c - 1)).2 i)) i (fun j hj => by have := hbd (c - 1) (by omega) j (by omega); show 0 ≤ min _ _; omega)
      have b4 := hbd (c - 1) (by omega) i (by omega)
      have b5 := hS i (by omega)
      refine w_iload_n (pc2 := 99) C dX3_leastReach_98 rfl rfl ?_
      refine w_aload_n (pc2 := 100) C dX3_leastReach_99 rfl rfl ?_
      refine w_getR (pc2 := 103) C dX3_leastReach_100 fl_X3_16 (by first | exact hy.k _ | assumption) (by first | exact hy.r _ _ | assumption) rfl ?_
      refine z_getI (pc2 := 106) C dX3_leastReach_103 fl_X3_20 (by first | exact hy.k _ | assumption) rfl ?_
      -- at 106: .if_icmp .ge 33
      rw [e12]
      refine z_icmp_ge (pc2 := 109) (tgt := 139) C dX3_leastReach_106 (by decide) rfl (by omega) (by omega) (fun h1 => ?_) (fun h1 => ?_)
      · exact absurd hi (by omega)
      · skip
        refine w_iload_n (pc2 := 110) C dX3_leastReach_109 rfl rfl ?_
        refine w_aload_n (pc2 := 111) C dX3_leastReach_110 rfl rfl ?_
        refine w_getR (pc2 := 114) C dX3_leastReach_111 fl_X3_11 (by first | exact hy.k _ | assumption) (by first | exact hy.r _ _ | assumption) rfl ?_
        refine w_iconst (pc2 := 115) (v := iI 0) C dX3_leastReach_114 (by decide) rfl ?_
        -- at 115: .aaload
        refine z_aald (pc2 := 116) (j := 0) C dX3_leastReach_115 (by first | exact hy.k _ | assumption) (by simp) (by omega) (by omega) (by decide) rfl ?_
        rw [r0]
        refine w_iload_n (pc2 := 117) C dX3_leastReach_116 rfl rfl ?_
        -- at 117: .iaload
        refine z_iald (pc2 := 118) (j := i) C dX3_leastReach_117 (by first | exact hy.k _ | assumption) (by omega) (by omega) (by decide) rfl ?_
        rw [b5.1]
        refine w_aload_n (pc2 := 119) C dX3_leastReach_118 rfl rfl ?_
        refine w_getR (pc2 := 122) C dX3_leastReach_119 fl_X3_11 (by first | exact hy.k _ | assumption) (by first | exact hy.r _ _ | assumption) rfl ?_
        refine w_iconst (pc2 := 123) (v := iI 1) C dX3_leastReach_122 (by decide) rfl ?_
        -- at 123: .aaload
        refine z_aald (pc2 := 124) (j := 1) C dX3_leastReach_123 (by first | exact hy.k _ | assumption) (by simp) (by omega) (by omega) (by decide) rfl ?_
        rw [r1]
        refine w_iload_n (pc2 := 125) C dX3_leastReach_124 rfl rfl ?_
        -- at 125: .iaload
        refine z_iald (pc2 := 126) (j := i) C dX3_leastReach_125 (by first | exact hy.k _ | assumption) (by omega) (by omega) (by decide) rfl ?_
        rw [b5.2]
        refine z_mmin (pc2 := 129) C dX3_leastReach_126 mm_X3_34 jm_min jm_ini jc_min (by decide) (Nat.le_of_ble_eq_true rfl) (by decide) (by decide) rfl (by omega) (by omega) ?_
        refine z_mmin (pc2 := 132) C dX3_leastReach_129 mm_X3_34 jm_min jm_ini jc_min (by decide) (Nat.le_of_ble_eq_true rfl) (by decide) (by decide) rfl (by omega) (by omega) ?_
        refine w_istore_n (pc2 := 133) C dX3_leastReach_132 rfl (by decide) rfl rfl ?_
        try dsimp only [List.set]
        refine w_iinc (pc2 := 136) C dX3_leastReach_133 rfl (iI_add _ _) rfl (by decide) rfl rfl ?_
        try dsimp only [List.set]
        refine w_goto (tgt := 98) C dX3_leastReach_136 (by decide) ?_
        -- at 98: .iload_n 2
        exact ih (i + 1) J2 h1c (by omega) hrow hS
  -- STRIKE by STRIKE
  have key1 : ∀ (d k : Nat) (J2 : wJn) (w2 w3 : Option Value), 1 ≤ k → k + d = c → (∀ a, a ≠ 30 → a ≠ 31 → J2 a = J a) → (∀ i, i < k → J2 30 i = (NS (J 13) (J 14) (k - 1)).1 i ∧ J2 31 i = (NS (J 13) (J 14) (k - 1)).2 i) → wp Γ 0 0 (QQ Γ post) 32 [some (.ref 28), some (.int (iI k)), none, none] [] n K (zw J2) L R := by
    intro d
    induction d with
    | zero =>
      intro k J2 w2 w3 hk1 hk hrow hS
      have e12 : J2 12 = J 12 := hrow 12 (by decide) (by decide)
      refine w_iload_n (pc2 := 33) C dX3_leastReach_32 rfl rfl ?_
      refine w_aload_n (pc2 := 34) C dX3_leastReach_33 rfl rfl ?_
      refine w_getR (pc2 := 37) C dX3_leastReach_34 fl_X3_16 (by first | exact hy.k _ | assumption) (by first | exact hy.r _ _ | assumption) rfl ?_
      refine z_getI (pc2 := 40) C dX3_leastReach_37 fl_X3_20 (by first | exact hy.k _ | assumption) rfl ?_
      -- at 40: .if_icmp .ge 53
      rw [e12]
      refine z_icmp_ge (pc2 := 43) (tgt := 93) C dX3_leastReach_40 (by decide) rfl (by omega) (by omega) (fun h1 => ?_) (fun h1 => ?_)
      · skip
        refine w_bipush (pc2 := 95) (v := iI 25) C dX3_leastReach_93 (by decide) rfl ?_
        refine w_istore_n (pc2 := 96) C dX3_leastReach_95 rfl (by decide) rfl rfl ?_
        try dsimp only [List.set]
        refine w_iconst (pc2 := 97) (v := iI 0) C dX3_leastReach_96 (by decide) rfl ?_
        refine w_istore_n (pc2 := 98) C dX3_leastReach_97 rfl (by decide) rfl rfl ?_
        try dsimp only [List.set]
        -- at 98: .iload_n 2
        exact key2 c 0 J2 (by omega) (by omega) hrow (fun i hi => by have := hS i (by omega); rw [show k = c by omega] at this; exact this)
      · exact absurd hk (by omega)
    | succ d ih =>
      intro k J2 w2 w3 hk1 hk hrow hS
      have e12 : J2 12 = J 12 := hrow 12 (by decide) (by decide)
      have e13 : J2 13 = J 13 := hrow 13 (by decide) (by decide)
      have e14 : J2 14 = J 14 := hrow 14 (by decide) (by decide)
      have hm2 : Mus J2 c := hm.rows e12 e13 e14
      have hb : ∀ i, i < k → (0 ≤ J2 30 i ∧ J2 30 i ≤ 25) ∧ (0 ≤ J2 31 i ∧ J2 31 i ≤ 25) := fun i hi => by
        have h1 := hS i hi
        have h2 := hbd (k - 1) (by omega) i (by omega)
        rw [h1.1, h1.2]; exact h2
      have eN : NS (J 13) (J 14) k = (nxL (J 13) (J 14) k (NS (J 13) (J 14) (k - 1)).1 (NS (J 13) (J 14) (k - 1)).2, nxR (J 13) (J 14) k (NS (J 13) (J 14) (k - 1)).1 (NS (J 13) (J 14) (k - 1)).2) := by
        have : k = (k - 1) + 1 := by omega
        rw [this]; rfl
      have rk := rfF_bd (tk := J 13) (bl := J 14) (l := k) (k := k) (c := c) (by omega) (by omega) hm.2.2
      refine w_iload_n (pc2 := 33) C dX3_leastReach_32 rfl rfl ?_
      refine w_aload_n (pc2 := 34) C dX3_leastReach_33 rfl rfl ?_
      refine w_getR (pc2 := 37) C dX3_leastReach_34 fl_X3_16 (by first | exact hy.k _ | assumption) (by first | exact hy.r _ _ | assumption) rfl ?_
      refine z_getI (pc2 := 40) C dX3_leastReach_37 fl_X3_20 (by first | exact hy.k _ | assumption) rfl ?_
      -- at 40: .if_icmp .ge 53
      rw [e12]
      refine z_icmp_ge (pc2 := 43) (tgt := 93) C dX3_leastReach_40 (by decide) rfl (by omega) (by omega) (fun h1 => ?_) (fun h1 => ?_)
      · exact absurd hk (by omega)
      · skip
        refine w_aload_n (pc2 := 44) C dX3_leastReach_43 rfl rfl ?_
        refine w_iconst (pc2 := 45) (v := iI 1) C dX3_leastReach_44 (by decide) rfl ?_
        refine w_iload_n (pc2 := 46) C dX3_leastReach_45 rfl rfl ?_
        -- at 46: .invokevirtual 26
        refine w_cVi (pc2 := 49)  C dX3_leastReach_46 mb_X3_26 mv_X3_handOver (s_X3_handOver hy (f := 1) (Or.inr rfl) hm2 hk1 (show k < c by omega) (fun i hi => (hb i hi).2)) (by first | exact hy.k _ | assumption) rfl (by decide) rfl rfl (Nat.le_of_ble_eq_true rfl) ⟨by decide, by decide⟩ ⟨rfl, rfl⟩ ⟨by decide, by decide⟩ rfl ?_
        refine w_istore_n (pc2 := 50) C dX3_leastReach_49 rfl (by decide) rfl rfl ?_
        try dsimp only [List.set]
        refine w_aload_n (pc2 := 51) C dX3_leastReach_50 rfl rfl ?_
        refine w_iconst (pc2 := 52) (v := iI 0) C dX3_leastReach_51 (by decide) rfl ?_
        refine w_iload_n (pc2 := 53) C dX3_leastReach_52 rfl rfl ?_
        -- at 53: .invokevirtual 26
        refine w_cVi (pc2 := 56)  C dX3_leastReach_53 mb_X3_26 mv_X3_handOver (s_X3_handOver hy (f := 0) (Or.inl rfl) hm2 hk1 (show k < c by omega) (fun i hi => (hb i hi).1)) (by first | exact hy.k _ | assumption) rfl (by decide) rfl rfl (Nat.le_of_ble_eq_true rfl) ⟨by decide, by decide⟩ ⟨rfl, rfl⟩ ⟨by decide, by decide⟩ rfl ?_
        refine w_istore_n (pc2 := 57) C dX3_leastReach_56 rfl (by decide) rfl rfl ?_
        try dsimp only [List.set]
        refine w_aload_n (pc2 := 58) C dX3_leastReach_57 rfl rfl ?_
        refine w_iconst (pc2 := 59) (v := iI 0) C dX3_leastReach_58 (by decide) rfl ?_
        refine w_iload_n (pc2 := 60) C dX3_leastReach_59 rfl rfl ?_
        -- at 60: .invokevirtual 30
        refine w_cVv (pc2 := 63)  C dX3_leastReach_60 mb_X3_30 mv_X3_stay (s_X3_stay hy (f := 0) (Or.inl rfl) hm2 hk1 (show k < c by omega) (fun i hi => (hb i hi).1)) (by first | exact hy.k _ | assumption) rfl (by decide) rfl rfl (Nat.le_of_ble_eq_true rfl) ⟨by decide, by decide⟩ ⟨rfl, rfl⟩ ⟨by decide, by decide⟩ rfl ?_
        have hJ3 : ∃ J3, J3 = ov J2 30 (fun i => max (J2 30 i) (rfF (J2 13) (J2 14) k k)) k := ⟨_, rfl⟩
        obtain ⟨J3, eJ3⟩ := hJ3
        have q3 : ∀ a, a ≠ 30 → J3 a = J2 a := fun a ha => by rw [eJ3]; exact ov_row ha
        have hm3 : Mus J3 c := hm2.rows (q3 12 (by decide)) (q3 13 (by decide)) (q3 14 (by decide))
        rw [show ov J2 (30 + 0) (fun i => max (J2 (30 + 0) i) (rfF (J2 13) (J2 14) k k)) k = J3 from eJ3.symm]
        refine w_aload_n (pc2 := 64) C dX3_leastReach_63 rfl rfl ?_
        refine w_iconst (pc2 := 65) (v := iI 1) C dX3_leastReach_64 (by decide) rfl ?_
        refine w_iload_n (pc2 := 66) C dX3_leastReach_65 rfl rfl ?_
        -- at 66: .invokevirtual 30
        refine w_cVv (pc2 := 69)  C dX3_leastReach_66 mb_X3_30 mv_X3_stay (s_X3_stay hy (f := 1) (Or.inr rfl) hm3 hk1 (show k < c by omega) (fun i hi => by rw [q3 (30 + 1) (by decide)]; exact (hb i hi).2)) (by first | exact hy.k _ | assumption) rfl (by decide) rfl rfl (Nat.le_of_ble_eq_true rfl) ⟨by decide, by decide⟩ ⟨rfl, rfl⟩ ⟨by decide, by decide⟩ rfl ?_
        have hJ4 : ∃ J4, J4 = ov J3 31 (fun i => max (J3 31 i) (rfF (J3 13) (J3 14) k k)) k := ⟨_, rfl⟩
        obtain ⟨J4, eJ4⟩ := hJ4
        have q4 : ∀ a, a ≠ 31 → J4 a = J3 a := fun a ha => by rw [eJ4]; exact ov_row ha
        rw [show ov J3 (30 + 1) (fun i => max (J3 (30 + 1) i) (rfF (J3 13) (J3 14) k k)) k = J4 from eJ4.symm]
        refine w_aload_n (pc2 := 70) C dX3_leastReach_69 rfl rfl ?_
        refine w_getR (pc2 := 73) C dX3_leastReach_70 fl_X3_11 (by first | exact hy.k _ | assumption) (by first | exact hy.r _ _ | assumption) rfl ?_
        refine w_iconst (pc2 := 74) (v := iI 0) C dX3_leastReach_73 (by decide) rfl ?_
        -- at 74: .aaload
        refine z_aald (pc2 := 75) (j := 0) C dX3_leastReach_74 (by first | exact hy.k _ | assumption) (by simp) (by omega) (by omega) (by decide) rfl ?_
        rw [r0]
        refine w_iload_n (pc2 := 76) C dX3_leastReach_75 rfl rfl ?_
        refine w_iload_n (pc2 := 77) C dX3_leastReach_76 rfl rfl ?_
        -- at 77: .iastore
        refine z_iast (pc2 := 78) (j := k) C dX3_leastReach_77 (by first | exact hy.k _ | assumption) (by omega) (by omega) (by decide) rfl ?_
        refine w_aload_n (pc2 := 79) C dX3_leastReach_78 rfl rfl ?_
        refine w_getR (pc2 := 82) C dX3_leastReach_79 fl_X3_11 (by first | exact hy.k _ | assumption) (by first | exact hy.r _ _ | assumption) rfl ?_
        refine w_iconst (pc2 := 83) (v := iI 1) C dX3_leastReach_82 (by decide) rfl ?_
        -- at 83: .aaload
        refine z_aald (pc2 := 84) (j := 1) C dX3_leastReach_83 (by first | exact hy.k _ | assumption) (by simp) (by omega) (by omega) (by decide) rfl ?_
        rw [r1]
        refine w_iload_n (pc2 := 85) C dX3_leastReach_84 rfl rfl ?_
        refine w_iload_n (pc2 := 86) C dX3_leastReach_85 rfl rfl ?_
        -- at 86: .iastore
        refine z_iast (pc2 := 87) (j := k) C dX3_leastReach_86 (by first | exact hy.k _ | assumption) (by omega) (by omega) (by decide) rfl ?_
        refine w_iinc (pc2 := 90) C dX3_leastReach_87 rfl (iI_add _ _) rfl (by decide) rfl rfl ?_
        try dsimp only [List.set]
        refine w_goto (tgt := 32) C dX3_leastReach_90 (by decide) ?_
        -- at 32: .iload_n 1
        refine w_drop (ih (k + 1) _ none none (by omega) (by omega) (fun a a0 a1 => by rw [up2_row a1, up2_row a0, q4 a a1, q3 a a0]; exact hrow a a0 a1) (fun i hi => ?_)) ⟨rfl, rfl, trivial⟩
        rw [Nat.add_sub_cancel, eN]
        constructor
        · rw [up2_row (by decide)]
          show _ = nxL _ _ _ _ _ i
          by_cases e : i = k
          · subst e
            rw [up2_s, nxL, if_pos rfl, e13]
            by_cases q : J 13 i = J 13 (i - 1)
            · rw [if_pos ⟨rfl, q⟩, if_pos q]
            · rw [if_neg (fun q2 => q q2.2), if_neg q]
              refine minN_cong _ (fun j hj => ?_)
              show max (J2 (30 + 1) j) _ = _
              rw [show J2 (30 + 1) j = _ from (hS j hj).2, e14]
          · rw [up2_n _ _ _ _ (by omega), q4 30 (by decide), eJ3, ov_in (by omega), nxL, if_neg e, (hS i (by omega)).1, e13, e14]
        · show _ = nxR _ _ _ _ _ i
          by_cases e : i = k
          · subst e
            rw [up2_s, nxR, if_pos rfl, if_neg (fun q2 => absurd q2.1 (by decide)), e13, e14]
            refine minN_cong _ (fun j hj => ?_)
            show max (J2 (30 + 0) j) _ = _
            rw [show J2 (30 + 0) j = _ from (hS j hj).1]
          · rw [up2_n _ _ _ _ (by omega), up2_row (by decide), eJ4, ov_in (by omega), nxR, if_neg e, q3 31 (by decide), q3 13 (by decide), q3 14 (by decide), (hS i (by omega)).2, e13, e14]
  refine w_aload_n (pc2 := 1) C dX3_leastReach_0 rfl rfl ?_
  refine w_getR (pc2 := 4) C dX3_leastReach_1 fl_X3_16 (by first | exact hy.k _ | assumption) (by first | exact hy.r _ _ | assumption) rfl ?_
  refine z_getI (pc2 := 7) C dX3_leastReach_4 fl_X3_20 (by first | exact hy.k _ | assumption) rfl ?_
  -- at 7: .ifCond .ne 5
  refine z_if_ne (pc2 := 10) (tgt := 12) C dX3_leastReach_7 (by decide) rfl (by omega) (fun h1 => ?_) (fun h1 => ?_)
  · skip
    refine w_aload_n (pc2 := 13) C dX3_leastReach_12 rfl rfl ?_
    refine w_getR (pc2 := 16) C dX3_leastReach_13 fl_X3_11 (by first | exact hy.k _ | assumption) (by first | exact hy.r _ _ | assumption) rfl ?_
    refine w_iconst (pc2 := 17) (v := iI 0) C dX3_leastReach_16 (by decide) rfl ?_
    -- at 17: .aaload
    refine z_aald (pc2 := 18) (j := 0) C dX3_leastReach_17 (by first | exact hy.k _ | assumption) (by simp) (by omega) (by omega) (by decide) rfl ?_
    rw [r0]
    refine w_iconst (pc2 := 19) (v := iI 0) C dX3_leastReach_18 (by decide) rfl ?_
    refine w_iconst (pc2 := 20) (v := iI 1) C dX3_leastReach_19 (by decide) rfl ?_
    -- at 20: .iastore
    refine z_iast (pc2 := 21) (j := 0) C dX3_leastReach_20 (by first | exact hy.k _ | assumption) (by omega) (by omega) (by decide) rfl ?_
    refine w_aload_n (pc2 := 22) C dX3_leastReach_21 rfl rfl ?_
    refine w_getR (pc2 := 25) C dX3_leastReach_22 fl_X3_11 (by first | exact hy.k _ | assumption) (by first | exact hy.r _ _ | assumption) rfl ?_
    refine w_iconst (pc2 := 26) (v := iI 1) C dX3_leastReach_25 (by decide) rfl ?_
    -- at 26: .aaload
    refine z_aald (pc2 := 27) (j := 1) C dX3_leastReach_26 (by first | exact hy.k _ | assumption) (by simp) (by omega) (by omega) (by decide) rfl ?_
    rw [r1]
    refine w_iconst (pc2 := 28) (v := iI 0) C dX3_leastReach_27 (by decide) rfl ?_
    refine w_iconst (pc2 := 29) (v := iI 1) C dX3_leastReach_28 (by decide) rfl ?_
    -- at 29: .iastore
    refine z_iast (pc2 := 30) (j := 0) C dX3_leastReach_29 (by first | exact hy.k _ | assumption) (by omega) (by omega) (by decide) rfl ?_
    refine w_iconst (pc2 := 31) (v := iI 1) C dX3_leastReach_30 (by decide) rfl ?_
    refine w_istore_n (pc2 := 32) C dX3_leastReach_31 rfl (by decide) rfl rfl ?_
    try dsimp only [List.set]
    -- at 32: .iload_n 1
    refine key1 (c - 1) 1 _ none none (by omega) (by omega) (fun a a0 a1 => by rw [up2_row a1, up2_row a0]) (fun i hi => ?_)
    have e : i = 0 := by omega
    subst e
    rw [up2_row (by decide), up2_s, up2_s]
    exact ⟨rfl, rfl⟩
  · skip
    refine w_iconst (pc2 := 11) (v := iI 1) C dX3_leastReach_10 (by decide) rfl ?_
    -- at 11: .ireturn
    exact w_iret C dX3_leastReach_11 (by decide) (by decide) (by rw [← hpost]; exact ⟨J, DetI (by rw [needF, if_pos (by omega)]) rfl, fun _ _ _ => rfl⟩)
theorem s_X10_need (hy : Ly K R) {c : Nat} (hm : Mus J c) : S_X10_need [.ref 0] n K (zw J) L R (fun r2 n2 K2 I2 L2 R2 => ∃ J2 : wJn, Det (some (.int (iI (needF (J 13) (J 14) c)))) n K (zw J2) L R r2 n2 K2 I2 L2 R2 ∧ ∀ a, a ≠ 30 → a ≠ 31 → J2 a = J a) := by
  refine Sp_intro [some (.ref 0)] rfl rfl (Nat.le_of_ble_eq_true rfl) rfl ?_
  intro Γ C
  replace C : C_X10_need Γ := C
  refine w_aload_n (pc2 := 1) C dX10_need_0 rfl rfl ?_
  refine w_getR (pc2 := 4) C dX10_need_1 fl_X10_52 (by first | exact hy.k _ | assumption) (by first | exact hy.r _ _ | assumption) rfl ?_
  -- at 4: .invokevirtual 129
  refine w_gV (pc2 := 7)  C dX10_need_4 mb_X10_129 mv_X3_leastReach (s_X3_leastReach hy hm) (by first | exact hy.k _ | assumption) rfl (by decide) rfl rfl (Nat.le_of_ble_eq_true rfl) ⟨by decide, by decide⟩ ⟨rfl, rfl⟩ ⟨by decide, by decide⟩ rfl ?_
  rintro r2 n2 K2 I2 L2 R2 ⟨J2, ⟨rfl, rfl, rfl, rfl, rfl, rfl⟩, hw⟩
  -- at 7: .ireturn
  exact w_iret C dX10_need_7 (by decide) (by decide) (⟨J2, DetI rfl rfl, hw⟩)
end NEED
