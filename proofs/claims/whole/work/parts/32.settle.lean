section SETTLE
variable {n : Nat} {K : wKd} {J : wJn} {L : wLn} {R : wRf}
theorem ite_or {p : Prop} [Decidable p] {a b v : Int} (h : (if p then a else b) = v) : (p ∧ v = a) ∨ (¬ p ∧ v = b) := by
  by_cases q : p
  · rw [if_pos q] at h; exact Or.inl ⟨q, h.symm⟩
  · rw [if_neg q] at h; exact Or.inr ⟨q, h.symm⟩
theorem s_X6_leastRest (hy : Ly K R) {c l r : Nat} (hm : Mus J c) (hr : RP J) (hl : l ≤ c) (hrr : r ≤ c) (hre : ∀ k, max l r ≤ k → k < c → J 27 ((k + 1) * 101 + r) = oJ J c (c - (k + 1)) (k + 1) r ∧ J 27 (l * 101 + (k + 1)) = oJ J c (c - (k + 1)) l (k + 1)) : S_X6_leastRest [.ref 24, .int (iI ((l : Int) - 1)), .int (iI ((r : Int) - 1))] n K (zw J) L R (Det (some (.int (iI (oJ J c (c - max l r) l r)))) n K (zw J) L R) := by
  have hc := hm.1
  have hc2 := hm.2.1
  have hp : 0 ≤ J 24 7 ∧ J 24 7 ≤ 10000 := hr.2.2
  have hbd : ∀ d l r, d ≤ c → l ≤ c - d → r ≤ c - d → 0 ≤ oJ J c d l r ∧ oJ J c d l r ≤ J 24 7 * d := opt_bd (okL hm) (okR hm) hp hc2
  refine Sp_intro [some (.ref 24), some (.int (iI ((l : Int) - 1))), some (.int (iI ((r : Int) - 1))), none, none, none, none, none, none] rfl rfl (Nat.le_of_ble_eq_true rfl) rfl ?_
  intro Γ C
  replace C : C_X6_leastRest Γ := C
  generalize hN : max l r = N at *
  have hN1 : l ≤ N ∧ r ≤ N ∧ N ≤ c := by omega
  have i0 := hbd (c - N) l r (by omega) (by omega) (by omega)
  have hT0 : ∃ T, oJ J c (c - N) l r = T := ⟨_, rfl⟩
  obtain ⟨T, hTe⟩ := hT0
  rw [hTe] at i0 ⊢
  have key : ∀ (d k : Nat) (f sk : Int), k + d = c → N ≤ k → 0 ≤ f ∧ f ≤ 1000000 → sk = J 24 7 * ((k : Int) - N) → f ≤ J 24 7 * ((c : Int) - N) → min f (sk + oJ J c d l r) = T → wp Γ 0 0 (QQ Γ (Det (some (.int (iI T))) n K (zw J) L R)) 30 [some (.ref 24), some (.int (iI ((l : Int) - 1))), some (.int (iI ((r : Int) - 1))), some (.int (iI N)), some (.int (iI f)), some (.int (iI sk)), some (.int (iI k)), none, none] [] n K (zw J) L R := by
    intro d
    induction d with
    | zero =>
      intro k f sk hk hNk hf hsk hf2 hT
      have e0 : oJ J c 0 l r = 0 := rfl
      have e1 : sk = J 24 7 * ((c : Int) - N) := by rw [hsk, show (k : Int) = (c : Int) by omega]
      rw [e0] at hT
      refine w_iload (pc2 := 32) C dX6_leastRest_30 rfl rfl ?_
      refine w_aload_n (pc2 := 33) C dX6_leastRest_32 rfl rfl ?_
      refine w_getR (pc2 := 36) C dX6_leastRest_33 fl_X6_21 (by first | exact hy.k _ | assumption) (by first | exact hy.r _ _ | assumption) rfl ?_
      refine z_getI (pc2 := 39) C dX6_leastRest_36 fl_X6_32 (by first | exact hy.k _ | assumption) rfl ?_
      -- at 39: .if_icmp .ge 83
      refine z_icmp_ge (pc2 := 42) (tgt := 122) C dX6_leastRest_39 (by decide) rfl (by omega) (by omega) (fun h1 => ?_) (fun h1 => ?_)
      · skip
        refine w_iload (pc2 := 124) C dX6_leastRest_122 rfl rfl ?_
        -- at 124: .ireturn
        exact w_iret C dX6_leastRest_124 (by decide) (by decide) (DetI (by rw [show f = T by omega]) rfl)
      · exact absurd hk (by omega)
    | succ d ih =>
      intro k f sk hk hNk hf hsk hf2 hT
      have hcd : c - (d + 1) = k := by omega
      have om : oJ J c (d + 1) l r = min (J 24 7 + oJ J c d l r) (min (if LJ J k l r < FAR then LJ J k l r + oJ J c d (k + 1) r else J 24 7 + oJ J c d l r) (if RJ J k l r < FAR then RJ J k l r + oJ J c d l (k + 1) else J 24 7 + oJ J c d l r)) := by
        have h := opt_min (okL hm) (okR hm) hp hc2 (d := d) (l := l) (r := r) (by omega) (by omega) (by omega)
        rw [hcd] at h
        exact h
      have i1 := hbd d (k + 1) r (by omega) (by omega) (by omega)
      have i2 := hbd d l (k + 1) (by omega) (by omega) (by omega)
      have i3 := hbd d l r (by omega) (by omega) (by omega)
      have i4 := hbd (d + 1) l r (by omega) (by omega) (by omega)
      have g1 := okL hm k l r (by omega) (by omega) (by omega)
      have g2 := okR hm k l r (by omega) (by omega) (by omega)
      have m2 : J 24 7 * (d : Int) ≤ 10000 * (d : Int) := Int.mul_le_mul_of_nonneg_right hp.2 (by omega)
      have hsk0 : 0 ≤ sk := by rw [hsk]; exact Int.mul_nonneg hp.1 (by omega)
      have hsk1 : sk ≤ 10000 * ((k : Int) - N) := by rw [hsk]; exact Int.mul_le_mul_of_nonneg_right hp.2 (by omega)
      have hsk2 : sk + J 24 7 = J 24 7 * (((k + 1 : Nat) : Int) - N) := by
        rw [hsk, Int.natCast_add, show ((k : Int) + ((1 : Nat) : Int) - N) = ((k : Int) - N) + 1 by omega, Int.mul_add, Int.mul_one]
      have hre1 := (hre k hNk (by omega)).1
      have hre2 := (hre k hNk (by omega)).2
      rw [show c - (k + 1) = d by omega] at hre1 hre2
      have j1 : ∃ z, (if LJ J k l r < FAR then LJ J k l r + oJ J c d (k + 1) r else J 24 7 + oJ J c d l r) = z := ⟨_, rfl⟩
      obtain ⟨z1, hz1⟩ := j1
      have j2 : ∃ z, (if RJ J k l r < FAR then RJ J k l r + oJ J c d l (k + 1) else J 24 7 + oJ J c d l r) = z := ⟨_, rfl⟩
      obtain ⟨z2, hz2⟩ := j2
      rw [hz1, hz2] at om
      rw [om] at hT
      have hz1 := ite_or hz1
      have hz2 := ite_or hz2
      generalize hpd : J 24 7 * (d : Int) = pd at *
      generalize hpc : J 24 7 * ((c : Int) - N) = pc9 at *
      -- behind both
      have fin2 : ∀ (f2 : Int), 0 ≤ f2 ∧ f2 ≤ f → min f2 (sk + J 24 7 + oJ J c d l r) = T → wp Γ 0 0 (QQ Γ (Det (some (.int (iI T))) n K (zw J) L R)) 107 [some (.ref 24), some (.int (iI ((l : Int) - 1))), some (.int (iI ((r : Int) - 1))), some (.int (iI N)), some (.int (iI f2)), some (.int (iI sk)), some (.int (iI k)), none, none] [] n K (zw J) L R := by
        intro f2 hf2' hT2
        refine w_iload (pc2 := 109) C dX6_leastRest_107 rfl rfl ?_
        refine w_aload_n (pc2 := 110) C dX6_leastRest_109 rfl rfl ?_
        refine z_getI (pc2 := 113) C dX6_leastRest_110 fl_X6_29 (by first | exact hy.k _ | assumption) rfl ?_
        refine z_iadd (pc2 := 114) C dX6_leastRest_113 rfl ?_
        refine w_istore (pc2 := 116) C dX6_leastRest_114 rfl (by decide) rfl rfl ?_
        try dsimp only [List.set]
        refine w_iinc (pc2 := 119) C dX6_leastRest_116 rfl (iI_add _ _) rfl (by decide) rfl rfl ?_
        try dsimp only [List.set]
        refine w_goto (tgt := 30) C dX6_leastRest_119 (by decide) ?_
        -- at 30: .iload 6
        exact ih (k + 1) f2 (sk + J 24 7) (by omega) (by omega) (by omega) hsk2 (by omega) hT2
      have fin1 : ∀ (f1 : Int), 0 ≤ f1 ∧ f1 ≤ f → min f1 (min (sk + z2) (sk + J 24 7 + oJ J c d l r)) = T → wp Γ 0 0 (QQ Γ (Det (some (.int (iI T))) n K (zw J) L R)) 78 [some (.ref 24), some (.int (iI ((l : Int) - 1))), some (.int (iI ((r : Int) - 1))), some (.int (iI N)), some (.int (iI f1)), some (.int (iI sk)), some (.int (iI k)), none, none] [] n K (zw J) L R := by
        intro f1 hf1 hT1
        refine w_aload_n (pc2 := 79) C dX6_leastRest_78 rfl rfl ?_
        refine w_iconst (pc2 := 80) (v := iI 1) C dX6_leastRest_79 (by decide) rfl ?_
        refine w_iload_n (pc2 := 81) C dX6_leastRest_80 rfl rfl ?_
        refine w_iload_n (pc2 := 82) C dX6_leastRest_81 rfl rfl ?_
        refine w_iload (pc2 := 84) C dX6_leastRest_82 rfl rfl ?_
        -- at 84: .invokevirtual 55
        refine w_cVi (pc2 := 87)  C dX6_leastRest_84 mb_X6_55 mv_X6_costBy (s_X6_costBy1 hy hm hr (show l ≤ k by omega) (show r ≤ k by omega) (show k < c by omega)) (by first | exact hy.k _ | assumption) rfl (by decide) rfl rfl (Nat.le_of_ble_eq_true rfl) ⟨by decide, by decide⟩ ⟨rfl, rfl⟩ ⟨by decide, by decide⟩ rfl ?_
        rw [hre2]
        have j3 : ∃ z, (if RJ J k l r < FAR then RJ J k l r + oJ J c d l (k + 1) else -1) = z := ⟨_, rfl⟩
        obtain ⟨v, hv⟩ := j3
        rw [hv]
        have hv2 := ite_or hv
        clear hv
        unfold FAR at hv2 hz2 g2
        refine w_istore (pc2 := 89) C dX6_leastRest_87 rfl (by decide) rfl rfl ?_
        try dsimp only [List.set]
        refine w_iload (pc2 := 91) C dX6_leastRest_89 rfl rfl ?_
        refine w_iconst (pc2 := 92) (v := iI (-1)) C dX6_leastRest_91 (by decide) rfl ?_
        -- at 92: .if_icmp .eq 15
        refine z_icmp_eq (pc2 := 95) (tgt := 107) C dX6_leastRest_92 (by decide) rfl (by omega) (by omega) (fun h1 => ?_) (fun h1 => ?_)
        · skip
          -- at 107: .iload 5
          exact w_drop (fin2 f1 (by omega) (by omega)) ⟨rfl, rfl, rfl, rfl, rfl, rfl, rfl, trivial⟩
        · skip
          refine w_iload (pc2 := 97) C dX6_leastRest_95 rfl rfl ?_
          refine w_iload (pc2 := 99) C dX6_leastRest_97 rfl rfl ?_
          refine w_iload (pc2 := 101) C dX6_leastRest_99 rfl rfl ?_
          refine z_iadd (pc2 := 102) C dX6_leastRest_101 rfl ?_
          refine z_mmin (pc2 := 105) C dX6_leastRest_102 mm_X6_59 jm_min jm_ini jc_min (by decide) (Nat.le_of_ble_eq_true rfl) (by decide) (by decide) rfl (by omega) (by omega) ?_
          refine w_istore (pc2 := 107) C dX6_leastRest_105 rfl (by decide) rfl rfl ?_
          try dsimp only [List.set]
          -- at 107: .iload 5
          exact w_drop (fin2 (min f1 (sk + v)) (by omega) (by omega)) ⟨rfl, rfl, rfl, rfl, rfl, rfl, rfl, trivial⟩
      refine w_iload (pc2 := 32) C dX6_leastRest_30 rfl rfl ?_
      refine w_aload_n (pc2 := 33) C dX6_leastRest_32 rfl rfl ?_
      refine w_getR (pc2 := 36) C dX6_leastRest_33 fl_X6_21 (by first | exact hy.k _ | assumption) (by first | exact hy.r _ _ | assumption) rfl ?_
      refine z_getI (pc2 := 39) C dX6_leastRest_36 fl_X6_32 (by first | exact hy.k _ | assumption) rfl ?_
      -- at 39: .if_icmp .ge 83
      refine z_icmp_ge (pc2 := 42) (tgt := 122) C dX6_leastRest_39 (by decide) rfl (by omega) (by omega) (fun h1 => ?_) (fun h1 => ?_)
      · exact absurd hk (by omega)
      · skip
        refine w_iload (pc2 := 44) C dX6_leastRest_42 rfl rfl ?_
        refine w_iload (pc2 := 46) C dX6_leastRest_44 rfl rfl ?_
        -- at 46: .if_icmp .ge 76
        refine z_icmp_ge (pc2 := 49) (tgt := 122) C dX6_leastRest_46 (by decide) rfl (by omega) (by omega) (fun h2 => ?_) (fun h2 => ?_)
        · unfold FAR at hz1 hz2 g1 g2
          refine w_iload (pc2 := 124) C dX6_leastRest_122 rfl rfl ?_
          -- at 124: .ireturn
          exact w_iret C dX6_leastRest_124 (by decide) (by decide) (DetI (by rw [show f = T by omega]) rfl)
        · skip
          refine w_aload_n (pc2 := 50) C dX6_leastRest_49 rfl rfl ?_
          refine w_iconst (pc2 := 51) (v := iI 0) C dX6_leastRest_50 (by decide) rfl ?_
          refine w_iload_n (pc2 := 52) C dX6_leastRest_51 rfl rfl ?_
          refine w_iload_n (pc2 := 53) C dX6_leastRest_52 rfl rfl ?_
          refine w_iload (pc2 := 55) C dX6_leastRest_53 rfl rfl ?_
          -- at 55: .invokevirtual 55
          refine w_cVi (pc2 := 58)  C dX6_leastRest_55 mb_X6_55 mv_X6_costBy (s_X6_costBy0 hy hm hr (show l ≤ k by omega) (show r ≤ k by omega) (show k < c by omega)) (by first | exact hy.k _ | assumption) rfl (by decide) rfl rfl (Nat.le_of_ble_eq_true rfl) ⟨by decide, by decide⟩ ⟨rfl, rfl⟩ ⟨by decide, by decide⟩ rfl ?_
          rw [hre1]
          have j3 : ∃ z, (if LJ J k l r < FAR then LJ J k l r + oJ J c d (k + 1) r else -1) = z := ⟨_, rfl⟩
          obtain ⟨v, hv⟩ := j3
          rw [hv]
          have hv2 := ite_or hv
          clear hv
          unfold FAR at hv2 hz1 g1
          refine w_istore (pc2 := 60) C dX6_leastRest_58 rfl (by decide) rfl rfl ?_
          try dsimp only [List.set]
          refine w_iload (pc2 := 62) C dX6_leastRest_60 rfl rfl ?_
          refine w_iconst (pc2 := 63) (v := iI (-1)) C dX6_leastRest_62 (by decide) rfl ?_
          -- at 63: .if_icmp .eq 15
          refine z_icmp_eq (pc2 := 66) (tgt := 78) C dX6_leastRest_63 (by decide) rfl (by omega) (by omega) (fun h3 => ?_) (fun h3 => ?_)
          · skip
            -- at 78: .aload_n 0
            exact w_drop (fin1 f (by omega) (by omega)) ⟨rfl, rfl, rfl, rfl, rfl, rfl, rfl, trivial⟩
          · skip
            refine w_iload (pc2 := 68) C dX6_leastRest_66 rfl rfl ?_
            refine w_iload (pc2 := 70) C dX6_leastRest_68 rfl rfl ?_
            refine w_iload (pc2 := 72) C dX6_leastRest_70 rfl rfl ?_
            refine z_iadd (pc2 := 73) C dX6_leastRest_72 rfl ?_
            refine z_mmin (pc2 := 76) C dX6_leastRest_73 mm_X6_59 jm_min jm_ini jc_min (by decide) (Nat.le_of_ble_eq_true rfl) (by decide) (by decide) rfl (by omega) (by omega) ?_
            refine w_istore (pc2 := 78) C dX6_leastRest_76 rfl (by decide) rfl rfl ?_
            try dsimp only [List.set]
            -- at 78: .aload_n 0
            exact w_drop (fin1 (min f (sk + v)) (by omega) (by omega)) ⟨rfl, rfl, rfl, rfl, rfl, rfl, rfl, trivial⟩
  have m1 : J 24 7 * ((c : Int) - N) ≤ 10000 * ((c : Int) - N) := Int.mul_le_mul_of_nonneg_right hp.2 (by omega)
  have m0 : 0 ≤ J 24 7 * ((c : Int) - N) := Int.mul_nonneg hp.1 (by omega)
  have eN : max ((l : Int) - 1) ((r : Int) - 1) + 1 = N := by omega
  rw [show ((c - N : Nat) : Int) = (c : Int) - N by omega] at i0
  refine w_iload_n (pc2 := 1) C dX6_leastRest_0 rfl rfl ?_
  refine w_iload_n (pc2 := 2) C dX6_leastRest_1 rfl rfl ?_
  refine z_mmax (pc2 := 5) C dX6_leastRest_2 mm_X6_50 jm_max jm_ini jc_max (by decide) (Nat.le_of_ble_eq_true rfl) (by decide) (by decide) rfl (by omega) (by omega) ?_
  refine w_iconst (pc2 := 6) (v := iI 1) C dX6_leastRest_5 (by decide) rfl ?_
  refine z_iadd (pc2 := 7) C dX6_leastRest_6 rfl ?_
  refine w_istore_n (pc2 := 8) C dX6_leastRest_7 rfl (by decide) rfl rfl ?_
  try dsimp only [List.set]
  refine w_aload_n (pc2 := 9) C dX6_leastRest_8 rfl rfl ?_
  refine w_getR (pc2 := 12) C dX6_leastRest_9 fl_X6_21 (by first | exact hy.k _ | assumption) (by first | exact hy.r _ _ | assumption) rfl ?_
  refine z_getI (pc2 := 15) C dX6_leastRest_12 fl_X6_32 (by first | exact hy.k _ | assumption) rfl ?_
  refine w_iload_n (pc2 := 16) C dX6_leastRest_15 rfl rfl ?_
  refine z_isub (pc2 := 17) C dX6_leastRest_16 rfl ?_
  refine w_aload_n (pc2 := 18) C dX6_leastRest_17 rfl rfl ?_
  refine z_getI (pc2 := 21) C dX6_leastRest_18 fl_X6_29 (by first | exact hy.k _ | assumption) rfl ?_
  refine z_imul (pc2 := 22) C dX6_leastRest_21 rfl ?_
  refine w_istore (pc2 := 24) C dX6_leastRest_22 rfl (by decide) rfl rfl ?_
  try dsimp only [List.set]
  refine w_iconst (pc2 := 25) (v := iI 0) C dX6_leastRest_24 (by decide) rfl ?_
  refine w_istore (pc2 := 27) C dX6_leastRest_25 rfl (by decide) rfl rfl ?_
  try dsimp only [List.set]
  refine w_iload_n (pc2 := 28) C dX6_leastRest_27 rfl rfl ?_
  refine w_istore (pc2 := 30) C dX6_leastRest_28 rfl (by decide) rfl rfl ?_
  try dsimp only [List.set]
  -- at 30: .iload 6
  rw [eN, hc, Int.mul_comm]
  exact key (c - N) N _ 0 (by omega) (by omega) (by omega) (by rw [Int.sub_self, Int.mul_zero]) (by omega) (by rw [Int.zero_add, hTe]; omega)
end SETTLE
